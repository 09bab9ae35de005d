import java.util.Arrays;

/** Objects that were brought into a certain state by calls, and what they tell. */
final class Made {
    /** Numbers that are no place, kind, feature, mark or rank, nor a sentence's number. */
    static final int[] NO_NUMBERS = {-1, -2, Integer.MIN_VALUE, Integer.MAX_VALUE, Integer.MAX_VALUE - 1};
    static final boolean[] BOTH_WAYS = {true, false};
    private static final int[] WATCHED = {0, 5, 10, 15, 18, 20};

    private Made() {
    }

    /** An object with one sentence, of words of these kinds. */
    static ArcLight with(int... kinds) {
        ArcLight light = new ArcLight();
        addSentence(light, kinds);
        return light;
    }

    /** An object with one sentence, of so many words of the kind 0. */
    static ArcLight alike(int words) {
        return with(new int[words]);
    }

    static int addSentence(ArcLight light, int... kinds) {
        int sentence = light.addSentence();
        for (int kind : kinds) {
            light.addWord(sentence, kind);
        }
        return sentence;
    }

    /** Tells the right heads of the words from 1 on. */
    static ArcLight correct(ArcLight light, int sentence, int... heads) {
        for (int word = 1; word <= heads.length; word++) {
            light.correct(sentence, heads[word - 1], word);
        }
        return light;
    }

    /** Forces arcs to the words from 1 on; NONE leaves a word out. */
    static ArcLight force(ArcLight light, int sentence, int... heads) {
        for (int word = 1; word <= heads.length; word++) {
            if (heads[word - 1] != ArcLight.NONE) {
                light.mark(sentence, heads[word - 1], word, ArcLight.FORCED);
            }
        }
        return light;
    }

    /** Forbids all arcs to a word. */
    static ArcLight forbidAll(ArcLight light, int sentence, int word) {
        for (int head = 0; head <= light.words(sentence); head++) {
            if (head != word) {
                light.mark(sentence, head, word, ArcLight.FORBIDDEN);
            }
        }
        return light;
    }

    /** Checks the scores of the best trees of sentence 0, of all allowed ones and of those without crossings. */
    static void dueBest(String what, ArcLight light, int crossing, int plain) {
        Check.due(what + ", best", light.best(0, true), crossing);
        Check.due(what + ", by trying", light.bestByTrying(0, true), crossing);
        Check.due(what + ", best without crossings", light.best(0, false), plain);
        Check.due(what + ", by trying without crossings", light.bestByTrying(0, false), plain);
    }

    /** The heads of the best tree, as "[head of 1, head of 2, ..]". */
    static String bestHeads(ArcLight light, int sentence, boolean crossing) {
        int[] heads = new int[light.words(sentence)];
        for (int word = 1; word <= heads.length; word++) {
            heads[word - 1] = light.head(sentence, crossing, word);
        }
        return Arrays.toString(heads);
    }

    /** The heads of a tree by its rank, as "[head of 1, head of 2, ..]". */
    static String rankedHeads(ArcLight light, int sentence, boolean crossing, int rank) {
        int[] heads = new int[light.words(sentence)];
        for (int word = 1; word <= heads.length; word++) {
            heads[word - 1] = light.rankedHead(sentence, crossing, rank, word);
        }
        return Arrays.toString(heads);
    }

    /** The weights of all features, as "[weight of 0, weight of 1, ..]". */
    static String weights(ArcLight light) {
        int[] weights = new int[28];
        for (int feature = 0; feature < weights.length; feature++) {
            weights[feature] = light.weight(feature);
        }
        return Arrays.toString(weights);
    }

    /** All that the calls of an object tell, in some 300 calls. Marks and right heads are told by changing them. */
    static String usedUp(ArcLight light) {
        StringBuilder told = new StringBuilder();
        int sentences = light.sentences();
        for (int sentence = 0; sentence < sentences; sentence++) {
            tellSentence(told, light, sentence);
        }
        told.append("\nweights ").append(weights(light));
        tellWatched(told, light);
        for (int sentence = 0; sentence < sentences; sentence++) {
            tellMarks(told, light, sentence);
        }
        Object left = Check.answerOf(light::rollBack);
        for (int change = 0; change < 20 && left instanceof Integer; change++) {
            told.append("\nleft ").append(left);
            tellWatched(told, light);
            left = Check.answerOf(light::rollBack);
        }
        told.append("\nin the end ").append(left);
        told.append("\nnext sentence ").append(Check.answerOf(light::addSentence));
        return told.toString();
    }

    private static void tellSentence(StringBuilder told, ArcLight light, int sentence) {
        int words = light.words(sentence);
        told.append("\nsentence ").append(sentence).append(", kinds");
        for (int word = 1; word <= words; word++) {
            told.append(' ').append(light.kind(sentence, word));
        }
        for (boolean crossing : BOTH_WAYS) {
            told.append(", trees ").append(light.trees(sentence, crossing));
            told.append(", best ").append(Check.answerOf(() -> light.best(sentence, crossing)));
        }
        told.append(", crossings ").append(Check.answerOf(() -> light.crossings(sentence)));
        told.append(", matched ").append(Check.answerOf(() -> light.matched(sentence)));
    }

    private static void tellMarks(StringBuilder told, ArcLight light, int sentence) {
        int words = light.words(sentence);
        for (int word = 1; word <= words; word++) {
            told.append("\nsentence ").append(sentence).append(", word ").append(word).append(", marks");
            for (int head = 0; head <= words; head++) {
                if (head != word) {
                    told.append(' ').append(light.mark(sentence, head, word, ArcLight.FREE));
                }
            }
            told.append(", right head ").append(light.correct(sentence, 0, word));
        }
    }

    private static void tellWatched(StringBuilder told, ArcLight light) {
        told.append("\nsteps ").append(light.steps()).append(", weights and averages");
        for (int feature : WATCHED) {
            told.append(' ').append(light.weight(feature)).append(' ').append(light.average(feature));
        }
    }
}
