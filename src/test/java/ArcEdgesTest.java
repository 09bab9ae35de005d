/** The boundary cases of the promises 1 to 11, sentence by sentence: sentences, words, weights and arcs. */
public final class ArcEdgesTest {
    public static void main(String[] args) {
        Check.sentence("1: No sentences", ArcEdgesTest::noSentences);
        Check.sentence("1: all weights are 0", ArcEdgesTest::allWeightsZero);
        Check.sentence("1: A new object shares nothing with another one", ArcEdgesTest::nothingShared);
        Check.sentence("2: Adds a sentence without words", ArcEdgesTest::withoutWords);
        Check.sentence("2: Returns its number", ArcEdgesTest::firstAndLastNumber);
        Check.sentence("2: if there are 5 sentences", ArcEdgesTest::sixthSentence);
        Check.sentence("3: Adds a word at the end", ArcEdgesTest::atTheEnd);
        Check.sentence("3: arcs from it and to it are free", ArcEdgesTest::newArcsFree);
        Check.sentence("3: its right head is not told", ArcEdgesTest::newHeadNotTold);
        Check.sentence("3: kind: 0 to 3", ArcEdgesTest::kindRange);
        Check.sentence("3: Returns how many words the sentence has then", ArcEdgesTest::wordsThen);
        Check.sentence("3: if the sentence has 6 words", ArcEdgesTest::seventhWord);
        Check.sentence("4: Returns how many sentences there are", ArcEdgesTest::howManySentences);
        Check.sentence("5: Returns how many words a sentence has", ArcEdgesTest::howManyWords);
        Check.sentence("6: its place, from 1 on", ArcEdgesTest::kindPlaces);
        weightsAndArcs();
        Check.end("ArcEdgesTest");
    }

    private static void weightsAndArcs() {
        Check.sentence("7: weight: -100 to 100", ArcEdgesTest::weightRange);
        Check.sentence("7: Returns the weight that it had", ArcEdgesTest::weightItHad);
        Check.sentence("7: if there is no such feature", ArcEdgesTest::firstAndLastFeature);
        Check.sentence("8: Returns the weight of a feature", ArcEdgesTest::weightBeyondTheRange);
        Check.sentence("9: Returns a feature of an arc", ArcEdgesTest::leastAndGreatestFeature);
        Check.sentence("9: whether the second one is meant", ArcEdgesTest::bothFeatures);
        Check.sentence("9: if head and word are the same", ArcEdgesTest::sameFeature);
        Check.sentence("9: of a word that was added later", ArcEdgesTest::laterWord);
        Check.sentence("10: Returns the score of an arc", ArcEdgesTest::scoreOfBoth);
        Check.sentence("10: the score of a marked arc", ArcEdgesTest::scoreOfMarked);
        Check.sentence("11: FREE, FORCED or FORBIDDEN", ArcEdgesTest::markRange);
        Check.sentence("11: Returns the mark that it had", ArcEdgesTest::markItHad);
        Check.sentence("11: and another arc to the word is forced", ArcEdgesTest::anotherForced);
        Check.sentence("11: of the same arc in another sentence", ArcEdgesTest::markOfOneSentence);
    }

    private static void noSentences() {
        ArcLight light = new ArcLight();
        Check.due("sentences", light.sentences(), 0);
        for (int number : new int[] {-1, 0, 4}) {
            Check.outOfBounds("words of " + number, () -> light.words(number));
            Check.outOfBounds("trees of " + number, () -> light.trees(number, true));
            Check.outOfBounds("addWord to " + number, () -> light.addWord(number, 0));
        }
    }

    private static void allWeightsZero() {
        ArcLight light = new ArcLight();
        Check.due("weight 0", light.weight(0), 0);
        Check.due("weight 27", light.weight(27), 0);
        Check.due("steps", light.steps(), 0);
        Check.due("average 0", light.average(0), 0.0);
        Check.due("average 27", light.average(27), 0.0);
        Check.badState("nothing to roll back", light::rollBack);
    }

    private static void nothingShared() {
        ArcLight first = Made.correct(Made.alike(6), 0, 0, 0, 0, 0, 0, 0);
        first.setWeight(3, 100);
        first.mend(0);
        ArcLight second = new ArcLight();
        Check.due("sentences", second.sentences(), 0);
        Check.due("weight", second.weight(3), 0);
        Check.due("steps", second.steps(), 0);
        Check.badState("rollBack", second::rollBack);
        Made.addSentence(second, 0, 0);
        second.mark(0, 2, 1, ArcLight.FORCED);
        Check.due("best of the second", second.best(0, true), 0);
        Check.due("trees of the first still", first.trees(0, true), 16807);
        Check.due("head in the first still", first.head(0, true, 1), 0);
    }

    private static void withoutWords() {
        ArcLight light = Made.alike(6);
        int added = light.addSentence();
        Check.due("words", light.words(added), 0);
        Check.due("trees", light.trees(added, true), 1);
        Check.outOfBounds("no word 1", () -> light.kind(added, 1));
        Check.due("words of the other one", light.words(0), 6);
    }

    private static void firstAndLastNumber() {
        ArcLight light = new ArcLight();
        Check.due("first", light.addSentence(), 0);
        light.addSentence();
        light.addSentence();
        light.addSentence();
        Check.due("last", light.addSentence(), 4);
    }

    private static void sixthSentence() {
        ArcLight light = new ArcLight();
        for (int number = 0; number < 5; number++) {
            Made.addSentence(light, number % 4);
        }
        Check.badState("addSentence", light::addSentence);
        Check.due("sentences", light.sentences(), 5);
        Check.outOfBounds("no sentence 5", () -> light.words(5));
        for (int number = 0; number < 5; number++) {
            Check.due("kind in " + number, light.kind(number, 1), number % 4);
        }
    }

    private static void atTheEnd() {
        ArcLight light = Made.with(1);
        light.addWord(0, 3);
        Check.due("first still", light.kind(0, 1), 1);
        Check.due("last", light.kind(0, 2), 3);
    }

    private static void newArcsFree() {
        ArcLight light = Made.with();
        for (int added = 1; added <= 6; added++) {
            light.addWord(0, 0);
            for (int place = 0; place < added; place++) {
                Check.due("to " + added, light.mark(0, place, added, ArcLight.FORBIDDEN), ArcLight.FREE);
                if (place > 0) {
                    Check.due("from " + added, light.mark(0, added, place, ArcLight.FORBIDDEN), ArcLight.FREE);
                }
            }
        }
    }

    private static void newHeadNotTold() {
        ArcLight light = Made.with();
        for (int added = 1; added <= 6; added++) {
            light.addWord(0, 0);
            Check.badState("mend", () -> light.mend(0));
            Check.due("right head of " + added, light.correct(0, 0, added), ArcLight.NONE);
            Check.due("mend then", light.mend(0), 0);
        }
    }

    private static void kindRange() {
        ArcLight light = Made.with();
        for (int kind : new int[] {-1, 4, 16, Integer.MIN_VALUE, Integer.MAX_VALUE}) {
            Check.badArgument("kind " + kind, () -> light.addWord(0, kind));
            Check.due("words", light.words(0), 0);
        }
        Check.due("the least", light.addWord(0, 0), 1);
        Check.due("the greatest", light.addWord(0, 3), 2);
    }

    private static void wordsThen() {
        ArcLight light = Made.with();
        Check.due("first", light.addWord(0, 0), 1);
        Check.badArgument("refused", () -> light.addWord(0, 4));
        Check.due("the refused one does not count", light.addWord(0, 0), 2);
    }

    private static void seventhWord() {
        ArcLight light = Made.with(0, 1, 2, 3, 0, 1);
        Check.badState("addWord", () -> light.addWord(0, 2));
        Check.due("words", light.words(0), 6);
        Check.due("kind of the last one", light.kind(0, 6), 1);
        Check.due("trees", light.trees(0, true), 16807);
        light.addSentence();
        Check.due("another sentence", light.addWord(1, 2), 1);
    }

    private static void howManySentences() {
        ArcLight light = new ArcLight();
        Check.due("none", light.sentences(), 0);
        for (int number = 1; number <= 5; number++) {
            light.addSentence();
            Check.due("sentences", light.sentences(), number);
        }
        Check.badState("refused", light::addSentence);
        Check.due("all", light.sentences(), 5);
    }

    private static void howManyWords() {
        ArcLight light = Made.with();
        Check.due("none", light.words(0), 0);
        for (int words = 1; words <= 6; words++) {
            light.addWord(0, 0);
            Check.due("words", light.words(0), words);
        }
        Check.badState("refused", () -> light.addWord(0, 0));
        Check.due("all", light.words(0), 6);
    }

    private static void kindPlaces() {
        ArcLight light = Made.with(3, 2, 1, 0, 1, 2);
        Check.due("first", light.kind(0, 1), 3);
        Check.due("last", light.kind(0, 6), 2);
        for (int place : new int[] {0, 7, -1, Integer.MIN_VALUE, Integer.MAX_VALUE}) {
            Check.outOfBounds("place " + place, () -> light.kind(0, place));
        }
        Check.outOfBounds("of an empty sentence", () -> Made.with().kind(0, 1));
    }

    private static void weightRange() {
        ArcLight light = new ArcLight();
        light.setWeight(5, 100);
        Check.due("the greatest", light.weight(5), 100);
        light.setWeight(5, -100);
        Check.due("the least", light.weight(5), -100);
        for (int weight : new int[] {-101, 101, Integer.MIN_VALUE, Integer.MAX_VALUE}) {
            Check.badArgument("weight " + weight, () -> light.setWeight(5, weight));
            Check.due("unchanged", light.weight(5), -100);
        }
    }

    private static void weightItHad() {
        ArcLight light = new ArcLight();
        Check.due("first", light.setWeight(9, 4), 0);
        Check.due("the same again", light.setWeight(9, 4), 4);
        light.rollBack();
        light.rollBack();
        Check.due("rolled back", light.setWeight(9, 1), 0);
    }

    private static void firstAndLastFeature() {
        ArcLight light = new ArcLight();
        light.setWeight(0, 1);
        light.setWeight(27, 2);
        Check.due("first", light.weight(0), 1);
        Check.due("last", light.weight(27), 2);
        for (int feature : new int[] {-1, 28, Integer.MIN_VALUE, Integer.MAX_VALUE}) {
            Check.outOfBounds("setWeight " + feature, () -> light.setWeight(feature, 0));
            Check.outOfBounds("weight " + feature, () -> light.weight(feature));
        }
    }

    /** What can be set bounds setting alone: mending makes a weight of 100 greater. */
    private static void weightBeyondTheRange() {
        ArcLight light = Made.correct(Made.force(Made.alike(2), 0, 2, 0), 0, 0, 1);
        light.setWeight(20, 100);
        light.setWeight(21, -100);
        Check.due("mend", light.mend(0), 2);
        Check.due("above 100", light.weight(20), 102);
        Check.due("below -100", light.weight(21), -101);
        Check.badArgument("it cannot be set so", () -> light.setWeight(20, 102));
        Check.due("it had", light.setWeight(20, 100), 102);
    }

    private static void leastAndGreatestFeature() {
        ArcLight light = Made.with(0, 0, 3, 3, 3, 3);
        Check.due("the least by kinds", light.feature(0, 1, 2, false), 0);
        Check.due("the greatest of two words", light.feature(0, 3, 4, false), 15);
        Check.due("the least from the root", light.feature(0, 0, 1, false), 16);
        Check.due("the greatest by kinds", light.feature(0, 0, 6, false), 19);
        Check.due("the least by distance", light.feature(0, 0, 1, true), 20);
        Check.due("the greatest by distance", light.feature(0, 6, 1, true), 27);
    }

    private static void bothFeatures() {
        ArcLight light = Made.with(2, 1);
        Check.due("the first one", light.feature(0, 1, 2, false), 9);
        Check.due("the second one", light.feature(0, 1, 2, true), 20);
        Check.due("the first one leftwards", light.feature(0, 2, 1, false), 6);
        Check.due("the second one leftwards", light.feature(0, 2, 1, true), 21);
    }

    private static void sameFeature() {
        ArcLight light = Made.alike(2);
        for (boolean isByDistance : Made.BOTH_WAYS) {
            Check.badArgument("the first word", () -> light.feature(0, 1, 1, isByDistance));
            Check.badArgument("the last word", () -> light.feature(0, 2, 2, isByDistance));
            Check.outOfBounds("the root", () -> light.feature(0, 0, 0, isByDistance));
            Check.outOfBounds("no word", () -> light.feature(0, 3, 3, isByDistance));
        }
    }

    private static void laterWord() {
        ArcLight light = Made.with(2);
        Check.outOfBounds("ahead of it, as word", () -> light.feature(0, 1, 2, true));
        Check.outOfBounds("ahead of it, as head", () -> light.feature(0, 2, 1, true));
        light.addWord(0, 3);
        Check.due("as word", light.feature(0, 1, 2, false), 11);
        Check.due("as head", light.feature(0, 2, 1, false), 14);
    }

    private static void scoreOfBoth() {
        ArcLight light = Made.with(0, 3);
        Check.due("at first", light.score(0, 0, 1), 0);
        light.setWeight(16, 100);
        Check.due("by kinds alone", light.score(0, 0, 1), 100);
        light.setWeight(20, -100);
        Check.due("both", light.score(0, 0, 1), 0);
        Check.due("by distance alone", light.score(0, 1, 2), -100);
        light.rollBack();
        Check.due("rolled back", light.score(0, 0, 1), 100);
    }

    private static void scoreOfMarked() {
        ArcLight light = Made.with(0, 3);
        light.setWeight(3, 7);
        light.mark(0, 1, 2, ArcLight.FORBIDDEN);
        Check.due("forbidden", light.score(0, 1, 2), 7);
        light.mark(0, 1, 2, ArcLight.FORCED);
        Check.due("forced", light.score(0, 1, 2), 7);
    }

    private static void markRange() {
        ArcLight light = Made.alike(2);
        for (int mark : new int[] {-1, 3, Integer.MIN_VALUE, Integer.MAX_VALUE}) {
            Check.badArgument("mark " + mark, () -> light.mark(0, 0, 1, mark));
        }
        Check.due("FORBIDDEN", light.mark(0, 0, 1, 2), 0);
        Check.due("FORCED", light.mark(0, 0, 1, 1), 2);
        Check.due("FREE", light.mark(0, 0, 1, 0), 1);
    }

    private static void markItHad() {
        ArcLight light = Made.alike(2);
        int[] marks = {0, 1, 1, 2, 2, 0, 2, 1, 0, 0};
        int had = ArcLight.FREE;
        for (int mark : marks) {
            Check.due("mark then " + mark, light.mark(0, 2, 1, mark), had);
            had = mark;
        }
        Check.due("the arc back is another one", light.mark(0, 1, 2, ArcLight.FREE), ArcLight.FREE);
    }

    private static void anotherForced() {
        ArcLight light = Made.alike(6);
        light.mark(0, 0, 6, ArcLight.FORCED);
        Check.badState("from the first word", () -> light.mark(0, 1, 6, ArcLight.FORCED));
        Check.badState("from the last but one", () -> light.mark(0, 5, 6, ArcLight.FORCED));
        Check.due("FORBIDDEN is no FORCED", light.mark(0, 5, 6, ArcLight.FORBIDDEN), ArcLight.FREE);
        Check.badState("from a forbidden head", () -> light.mark(0, 5, 6, ArcLight.FORCED));
        Check.due("refused, it is forbidden still", light.mark(0, 5, 6, ArcLight.FREE), ArcLight.FORBIDDEN);
        light.mark(0, 0, 6, ArcLight.FORBIDDEN);
        Check.due("none is forced now", light.mark(0, 5, 6, ArcLight.FORCED), ArcLight.FREE);
    }

    private static void markOfOneSentence() {
        ArcLight light = Made.alike(2);
        Made.addSentence(light, 0, 0);
        light.mark(0, 2, 1, ArcLight.FORCED);
        Check.due("the other sentence's arc", light.mark(1, 0, 1, ArcLight.FORCED), ArcLight.FREE);
        Check.due("trees of the first", light.trees(0, true), 1);
        Check.due("trees of the second", light.trees(1, true), 2);
    }
}
