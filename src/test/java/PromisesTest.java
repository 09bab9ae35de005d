import java.util.List;

/** The promises one by one: ordinary inputs, the edges that the document names, wrong inputs. */
public final class PromisesTest {
    private static final Class<IndexOutOfBoundsException> OUT = IndexOutOfBoundsException.class;
    private static final Class<IllegalArgumentException> ARGUMENT = IllegalArgumentException.class;
    private static final Class<IllegalStateException> STATE = IllegalStateException.class;
    private static final int[] NO_NUMBERS = {-1, Integer.MIN_VALUE, Integer.MAX_VALUE};

    public static void main(String[] args) {
        promise1();
        promise2();
        promise3();
        promise3Keeps();
        promises4To6();
        promises7And8();
        promise9();
        promise10();
        promise11();
        promise12();
        promises13And14();
        promise15();
        promise16();
        promises17And18();
        promise19();
        promise20();
        promise21();
        promise21WithCrossings();
        promise21Refuses();
        promise22();
        promise23();
        promise24();
        promise24Keeps20();
        Check.end("PromisesTest");
    }

    private static void dueHeads(String what, ArcLight light, boolean crossing, int... heads) {
        for (int word = 1; word <= heads.length; word++) {
            Check.due(what + ": head of " + word, light.head(0, crossing, word), heads[word - 1]);
        }
    }

    private static void promise1() {
        ArcLight light = new ArcLight();
        Check.due("1: sentences", light.sentences(), 0);
        Check.due("1: steps", light.steps(), 0);
        for (int feature = 0; feature < 28; feature++) {
            Check.due("1: weight " + feature, light.weight(feature), 0);
            Check.due("1: average " + feature, light.average(feature), 0.0);
        }
        Check.fails("1: rollBack", STATE, light::rollBack);
        ArcLight other = new ArcLight();
        other.addSentence();
        other.setWeight(0, 1);
        Check.due("1: sentences of another object", light.sentences(), 0);
        Check.due("1: weight of another object", light.weight(0), 0);
    }

    private static void promise2() {
        ArcLight light = new ArcLight();
        for (int number = 0; number < 5; number++) {
            Check.due("2: addSentence", light.addSentence(), number);
            Check.due("2: words", light.words(number), 0);
        }
        Check.fails("2: sixth sentence", STATE, light::addSentence);
        Check.due("2: sentences", light.sentences(), 5);
    }

    private static void promise3() {
        ArcLight light = Made.with();
        light.addSentence();
        Check.fails("3: kind -1", ARGUMENT, () -> light.addWord(0, -1));
        Check.fails("3: kind 4", ARGUMENT, () -> light.addWord(0, 4));
        Check.due("3: words behind refusals", light.words(0), 0);
        for (int words = 1; words <= 6; words++) {
            Check.due("3: addWord", light.addWord(0, words % 4), words);
        }
        Check.fails("3: seventh word", STATE, () -> light.addWord(0, 0));
        Check.fails("3: kind ahead of state", ARGUMENT, () -> light.addWord(0, 4));
        Check.fails("3: sentence ahead of kind", OUT, () -> light.addWord(2, 4));
        Check.fails("3: sentence -1", OUT, () -> light.addWord(-1, 0));
        Check.due("3: words", light.words(0), 6);
        Check.due("3: words of the other one", light.words(1), 0);
    }

    private static void promise3Keeps() {
        ArcLight light = Made.with(0, 1);
        light.mark(0, 2, 1, ArcLight.FORCED);
        light.correct(0, 2, 1);
        light.addWord(0, 2);
        for (int place = 0; place < 3; place++) {
            Check.due("3: arc to the new word", light.mark(0, place, 3, ArcLight.FREE), ArcLight.FREE);
        }
        Check.due("3: arc from the new word", light.mark(0, 3, 2, ArcLight.FREE), ArcLight.FREE);
        Check.due("3: older mark", light.mark(0, 2, 1, ArcLight.FORCED), ArcLight.FORCED);
        Check.due("3: older right head", light.correct(0, 2, 1), 2);
        Check.due("3: right head of the new word", light.correct(0, 0, 3), ArcLight.NONE);
    }

    private static void promises4To6() {
        ArcLight light = Made.with(3, 0, 2);
        Check.due("4: sentences", light.sentences(), 1);
        Check.due("5: words", light.words(0), 3);
        Check.due("6: kind of 1", light.kind(0, 1), 3);
        Check.due("6: kind of 2", light.kind(0, 2), 0);
        Check.due("6: kind of 3", light.kind(0, 3), 2);
        light.addSentence();
        light.addWord(1, 1);
        Check.due("4: sentences then", light.sentences(), 2);
        Check.due("5: words of the second", light.words(1), 1);
        Check.due("6: kind in the second", light.kind(1, 1), 1);
        Check.fails("5: sentence 2", OUT, () -> light.words(2));
        Check.fails("6: word 0", OUT, () -> light.kind(0, 0));
        Check.fails("6: word 4", OUT, () -> light.kind(0, 4));
        Check.fails("6: word 2 of the second", OUT, () -> light.kind(1, 2));
        for (int number : NO_NUMBERS) {
            Check.fails("5: sentence " + number, OUT, () -> light.words(number));
            Check.fails("6: sentence " + number, OUT, () -> light.kind(number, 1));
            Check.fails("6: word " + number, OUT, () -> light.kind(0, number));
        }
    }

    private static void promises7And8() {
        ArcLight light = new ArcLight();
        Check.due("7: first", light.setWeight(0, 100), 0);
        Check.due("7: then", light.setWeight(0, -100), 100);
        Check.due("7: last feature", light.setWeight(27, 5), 0);
        Check.fails("7: weight 101", ARGUMENT, () -> light.setWeight(0, 101));
        Check.fails("7: weight -101", ARGUMENT, () -> light.setWeight(0, -101));
        Check.fails("7: feature ahead of weight", OUT, () -> light.setWeight(28, 101));
        Check.due("8: weight 0", light.weight(0), -100);
        Check.due("8: weight 27", light.weight(27), 5);
        Check.due("8: weight 1", light.weight(1), 0);
        Check.fails("8: feature 28", OUT, () -> light.weight(28));
        for (int number : NO_NUMBERS) {
            Check.fails("7: feature " + number, OUT, () -> light.setWeight(number, 0));
            Check.fails("7: weight " + number, number == -1 ? OUT : ARGUMENT,
                    () -> light.setWeight(number == -1 ? -1 : 0, number));
            Check.fails("8: feature " + number, OUT, () -> light.weight(number));
        }
    }

    private static void promise9() {
        ArcLight light = Made.with(1, 3, 0, 2, 3, 1);
        Check.due("9: kinds from the root", light.feature(0, 0, 2, false), 19);
        Check.due("9: kinds 1 and 3", light.feature(0, 1, 2, false), 7);
        Check.due("9: kinds 3 and 1", light.feature(0, 2, 1, false), 13);
        Check.due("9: kinds 0 and 3", light.feature(0, 3, 5, false), 3);
        int[] rightwards = {20, 22, 24, 26, 26};
        int[] leftwards = {21, 23, 25, 27, 27};
        for (int distance = 1; distance <= 5; distance++) {
            Check.due("9: rightwards " + distance, light.feature(0, 1, 1 + distance, true),
                    rightwards[distance - 1]);
            Check.due("9: leftwards " + distance, light.feature(0, 1 + distance, 1, true),
                    leftwards[distance - 1]);
        }
        Check.due("9: from the root over 6", light.feature(0, 0, 6, true), 26);
        dueArcFailures("9", light, (s, h, w) -> light.feature(s, h, w, true));
        dueArcFailures("9", light, (s, h, w) -> light.feature(s, h, w, false));
    }

    private interface ArcCall {
        Object answer(int sentence, int head, int word);
    }

    /** What the calls that take an arc refuse alike, in an object with one sentence of six words. */
    private static void dueArcFailures(String promise, ArcLight light, ArcCall call) {
        Check.fails(promise + ": no sentence 1", OUT, () -> call.answer(1, 0, 1));
        Check.fails(promise + ": no sentence 1, and the same", OUT, () -> call.answer(1, 1, 1));
        Check.fails(promise + ": no head 7", OUT, () -> call.answer(0, 7, 1));
        Check.fails(promise + ": no word 7", OUT, () -> call.answer(0, 1, 7));
        Check.fails(promise + ": neither 7", OUT, () -> call.answer(0, 7, 7));
        Check.fails(promise + ": no word 0", OUT, () -> call.answer(0, 1, 0));
        Check.fails(promise + ": the root is no word", OUT, () -> call.answer(0, 0, 0));
        for (int number : NO_NUMBERS) {
            Check.fails(promise + ": sentence " + number, OUT, () -> call.answer(number, 0, 1));
            Check.fails(promise + ": head " + number, OUT, () -> call.answer(0, number, 1));
            Check.fails(promise + ": word " + number, OUT, () -> call.answer(0, 1, number));
        }
        for (int word = 1; word <= 6; word++) {
            int both = word;
            Check.fails(promise + ": the same " + both, ARGUMENT, () -> call.answer(0, both, both));
        }
    }

    private static void promise10() {
        ArcLight light = Made.with(1, 3, 0, 2, 3, 1);
        light.setWeight(7, 30);
        light.setWeight(20, -4);
        light.setWeight(13, 11);
        Check.due("10: both features", light.score(0, 1, 2), 26);
        Check.due("10: the other way", light.score(0, 2, 1), 11);
        Check.due("10: by distance alone", light.score(0, 0, 1), -4);
        Check.due("10: none", light.score(0, 6, 3), 0);
        dueArcFailures("10", light, light::score);
    }

    private static void promise11() {
        ArcLight light = Made.with(1, 3, 0, 2, 3, 1);
        Check.due("11: first", light.mark(0, 2, 1, ArcLight.FORCED), ArcLight.FREE);
        Check.due("11: forced again", light.mark(0, 2, 1, ArcLight.FORCED), ArcLight.FORCED);
        Check.fails("11: another forced", STATE, () -> light.mark(0, 0, 1, ArcLight.FORCED));
        Check.fails("11: the same ahead of the state", ARGUMENT, () -> light.mark(0, 1, 1, ArcLight.FORCED));
        Check.due("11: another word", light.mark(0, 2, 3, ArcLight.FORCED), ArcLight.FREE);
        Check.due("11: another forbidden", light.mark(0, 0, 1, ArcLight.FORBIDDEN), ArcLight.FREE);
        Check.due("11: forbidden then", light.mark(0, 2, 1, ArcLight.FORBIDDEN), ArcLight.FORCED);
        Check.due("11: forced then", light.mark(0, 0, 1, ArcLight.FORCED), ArcLight.FORBIDDEN);
        Check.fails("11: now the other one", STATE, () -> light.mark(0, 2, 1, ArcLight.FORCED));
        Check.due("11: free", light.mark(0, 0, 1, ArcLight.FREE), ArcLight.FORCED);
        Check.due("11: forbidden still", light.mark(0, 2, 1, ArcLight.FREE), ArcLight.FORBIDDEN);
        Check.due("11: nothing", light.mark(0, 2, 1, ArcLight.FREE), ArcLight.FREE);
        Check.fails("11: mark 3", ARGUMENT, () -> light.mark(0, 0, 1, 3));
        Check.fails("11: mark -1", ARGUMENT, () -> light.mark(0, 0, 1, -1));
        Check.fails("11: arc ahead of mark", OUT, () -> light.mark(0, 7, 1, 3));
        dueArcFailures("11", light, (s, h, w) -> light.mark(s, h, w, ArcLight.FORCED));
    }

    private static void promise12() {
        int[] all = {1, 1, 3, 16, 125, 1296, 16807};
        int[] plain = {1, 1, 3, 12, 55, 273, 1428};
        ArcLight light = Made.with();
        for (int words = 0; words <= 6; words++) {
            Check.due("12: trees of " + words, light.trees(0, true), all[words]);
            Check.due("12: without crossings of " + words, light.trees(0, false), plain[words]);
            if (words < 6) {
                light.addWord(0, 0);
            }
        }
        light.mark(0, 3, 1, ArcLight.FORCED);
        light.mark(0, 4, 2, ArcLight.FORCED);
        Check.due("12: forced crossing", light.trees(0, false), 0);
        Check.due("12: forced", light.trees(0, true), 7 * 7 * 7);
        Check.fails("12: sentence 1", OUT, () -> light.trees(1, true));
        Check.fails("12: sentence -1", OUT, () -> light.trees(-1, false));
        ArcLight small = Made.with(0, 0);
        small.mark(0, 1, 2, ArcLight.FORBIDDEN);
        Check.due("12: one forbidden", small.trees(0, true), 2);
        small.mark(0, 2, 1, ArcLight.FORBIDDEN);
        Check.due("12: two forbidden", small.trees(0, true), 1);
        small.mark(0, 0, 2, ArcLight.FORBIDDEN);
        Check.due("12: all forbidden", small.trees(0, true), 0);
    }

    private static void promises13And14() {
        ArcLight light = Made.with(0, 1, 2, 3);
        for (int feature : new int[] {2, 7}) {
            light.setWeight(feature, 9);
        }
        Made.dueBest("13: crossing arcs of 9", light, 18, 9);
        light.setWeight(16, -5);
        Made.dueBest("13: below nothing", light, 18, 9);
        light.mark(0, 2, 4, ArcLight.FORBIDDEN);
        Made.dueBest("13: one forbidden", light, 9, 9);
        for (int feature = 0; feature < 28; feature++) {
            light.setWeight(feature, -100);
        }
        Made.dueBest("13: all below 0", light, -800, -800);
        Made.dueBest("13: without words", Made.with(), 0, 0);
        ArcLight circles = Made.with(0, 0, 1, 1, 2, 2);
        circles.setWeight(0, 50);
        circles.setWeight(5, 40);
        circles.setWeight(10, 30);
        circles.setWeight(4, 7);
        circles.setWeight(9, 6);
        circles.setWeight(17, -3);
        circles.setWeight(16, -9);
        circles.setWeight(18, 2);
        Made.dueBest("13: circles", circles, 2 + 30 + 6 + 40 + 7 + 50, 2 + 30 + 6 + 40 + 7 + 50);
        ArcLight none = Made.with(0);
        none.mark(0, 0, 1, ArcLight.FORBIDDEN);
        ArcLight crossed = Made.with(0, 0, 0, 0);
        crossed.mark(0, 3, 1, ArcLight.FORCED);
        crossed.mark(0, 4, 2, ArcLight.FORCED);
        for (boolean crossing : new boolean[] {true, false}) {
            Check.fails("13: no tree", STATE, () -> none.best(0, crossing));
            Check.fails("14: no tree", STATE, () -> none.bestByTrying(0, crossing));
            Check.fails("13: sentence 1", OUT, () -> none.best(1, crossing));
            Check.fails("14: sentence 1", OUT, () -> none.bestByTrying(1, crossing));
            Check.fails("13: sentence -1", OUT, () -> none.best(-1, crossing));
            Check.fails("14: sentence -1", OUT, () -> none.bestByTrying(-1, crossing));
        }
        Check.due("13: crossing alone", crossed.best(0, true), 0);
        Check.due("14: crossing alone", crossed.bestByTrying(0, true), 0);
        Check.fails("13: crossing forced", STATE, () -> crossed.best(0, false));
        Check.fails("14: crossing forced", STATE, () -> crossed.bestByTrying(0, false));
    }

    private static void promise15() {
        ArcLight light = Made.with(0, 0, 0, 0, 0, 0);
        dueHeads("15: all alike", light, true, 0, 0, 0, 0, 0, 0);
        dueHeads("15: all alike without crossings", light, false, 0, 0, 0, 0, 0, 0);
        light.setWeight(16, -1);
        dueHeads("15: one from the root", light, true, 0, 1, 1, 1, 1, 1);
        dueHeads("15: one from the root without crossings", light, false, 0, 1, 1, 1, 1, 1);
        light.mark(0, 0, 1, ArcLight.FORBIDDEN);
        dueHeads("15: another from the root", light, true, 2, 0, 1, 1, 1, 1);
        dueHeads("15: another from the root without crossings", light, false, 2, 0, 2, 2, 2, 2);
        Check.fails("15: word 0", OUT, () -> light.head(0, true, 0));
        Check.fails("15: word 7", OUT, () -> light.head(0, false, 7));
        Check.fails("15: sentence 1", OUT, () -> light.head(1, true, 1));
        ArcLight none = Made.with(0);
        none.mark(0, 0, 1, ArcLight.FORBIDDEN);
        Check.fails("15: no tree", STATE, () -> none.head(0, true, 1));
        Check.fails("15: no tree without crossings", STATE, () -> none.head(0, false, 1));
        Check.fails("15: word ahead of tree", OUT, () -> none.head(0, true, 2));
        Check.fails("15: no words", OUT, () -> Made.with().head(0, true, 1));
    }

    private static void promise16() {
        ArcLight light = Made.with(0, 0, 0, 0, 0, 0);
        Check.due("16: none", light.crossings(0), 0);
        light.mark(0, 3, 1, ArcLight.FORCED);
        Check.due("16: over the word between", light.crossings(0), 1);
        light.mark(0, 4, 2, ArcLight.FORCED);
        Check.due("16: two arcs", light.crossings(0), 2);
        light.mark(0, 3, 5, ArcLight.FORCED);
        Check.due("16: ends that are the same", light.crossings(0), 4);
        ArcLight last = Made.with(0, 0, 0);
        last.mark(0, 1, 3, ArcLight.FORCED);
        Check.due("16: with the last word", last.crossings(0), 1);
        last.mark(0, 1, 2, ArcLight.FORCED);
        Check.due("16: both from one head", last.crossings(0), 0);
        Check.due("16: of no words", Made.with().crossings(0), 0);
        Check.fails("16: sentence 1", OUT, () -> light.crossings(1));
        ArcLight none = Made.with(0);
        none.mark(0, 0, 1, ArcLight.FORBIDDEN);
        Check.fails("16: no tree", STATE, () -> none.crossings(0));
    }

    private static void promises17And18() {
        ArcLight light = Made.with(0, 1);
        light.setWeight(16, 2);
        light.setWeight(4, 2);
        int[][] due = {{2, 0, 0}, {2, 0, 1}, {2, 2, 0}};
        for (int rank = 0; rank < due.length; rank++) {
            for (boolean crossing : new boolean[] {true, false}) {
                Check.due("17: rank " + rank, light.ranked(0, crossing, rank), due[rank][0]);
                Check.due("18: rank " + rank, light.rankedHead(0, crossing, rank, 1), due[rank][1]);
                Check.due("18: rank " + rank, light.rankedHead(0, crossing, rank, 2), due[rank][2]);
            }
        }
        light.setWeight(21, 1);
        Check.due("17: first then", light.ranked(0, true, 0), 3);
        Check.due("18: first then", light.rankedHead(0, true, 0, 1), 2);
        Check.due("17: last then", light.ranked(0, true, 2), 2);
        Check.due("18: last then", light.rankedHead(0, true, 2, 2), 1);
        Check.fails("17: rank 3", OUT, () -> light.ranked(0, true, 3));
        Check.fails("18: rank 3", OUT, () -> light.rankedHead(0, true, 3, 1));
        Check.fails("18: word 0", OUT, () -> light.rankedHead(0, true, 0, 0));
        Check.fails("18: word 3", OUT, () -> light.rankedHead(0, true, 0, 3));
        for (int number : NO_NUMBERS) {
            Check.fails("17: rank " + number, OUT, () -> light.ranked(0, false, number));
            Check.fails("18: rank " + number, OUT, () -> light.rankedHead(0, false, number, 1));
            Check.fails("17: sentence " + number, OUT, () -> light.ranked(number, true, 0));
            Check.fails("18: sentence " + number, OUT, () -> light.rankedHead(number, true, 0, 1));
        }
        rankedEdges();
        rankedAlike();
    }

    private static void rankedEdges() {
        Check.due("17: of no words", Made.with().ranked(0, true, 0), 0);
        Check.fails("17: of no words, rank 1", OUT, () -> Made.with().ranked(0, true, 1));
        ArcLight none = Made.with(0);
        none.mark(0, 0, 1, ArcLight.FORBIDDEN);
        Check.fails("17: no tree", OUT, () -> none.ranked(0, true, 0));
        Check.fails("18: no tree", OUT, () -> none.rankedHead(0, true, 0, 1));
        ArcLight long6 = Made.with(0, 0, 0, 0, 0, 0);
        Check.due("17: rank 16806", long6.ranked(0, true, 16806), 0);
        Check.fails("17: rank 16807", OUT, () -> long6.ranked(0, true, 16807));
        Check.fails("17: rank 1428", OUT, () -> long6.ranked(0, false, 1428));
        int[] last = {6, 6, 6, 6, 6, 0};
        for (int word = 1; word <= 6; word++) {
            Check.due("18: last of 16807", long6.rankedHead(0, true, 16806, word), last[word - 1]);
            Check.due("18: last of 1428", long6.rankedHead(0, false, 1427, word), last[word - 1]);
        }
    }

    /** Alike arcs: the rank is then the place among all trees by their heads alone. */
    private static void rankedAlike() {
        ArcLight light = Made.with(0, 0, 0, 0, 0, 0);
        int[] ranks = {0, 1, 2, 3, 4, 5, 6, 10, 11};
        int[] fifth = {0, 0, 0, 0, 0, 0, 1, 1, 1};
        int[] sixth = {0, 1, 2, 3, 4, 5, 0, 4, 5};
        for (int i = 0; i < ranks.length; i++) {
            Check.due("18: fifth of rank " + ranks[i], light.rankedHead(0, true, ranks[i], 5), fifth[i]);
            Check.due("18: sixth of rank " + ranks[i], light.rankedHead(0, true, ranks[i], 6), sixth[i]);
        }
    }

    private static void promise19() {
        ArcLight light = Made.with(1, 3, 0, 2, 3, 1);
        Check.due("19: first", light.correct(0, 0, 1), ArcLight.NONE);
        Check.due("19: then", light.correct(0, 6, 1), 0);
        Check.due("19: again", light.correct(0, 6, 1), 6);
        Check.due("19: another word", light.correct(0, 1, 6), ArcLight.NONE);
        dueArcFailures("19", light, light::correct);
        Check.due("19: unchanged", light.correct(0, 0, 1), 6);
    }

    private static void promise20() {
        ArcLight light = Made.with(0, 1, 2);
        Check.due("20: none told", light.matched(0), 0);
        light.correct(0, 0, 1);
        light.correct(0, 1, 2);
        Check.due("20: one of two", light.matched(0), 1);
        light.correct(0, 0, 3);
        Check.due("20: two of three", light.matched(0), 2);
        light.mark(0, 1, 2, ArcLight.FORCED);
        Check.due("20: all", light.matched(0), 3);
        light.mark(0, 3, 1, ArcLight.FORCED);
        Check.due("20: another head", light.matched(0), 2);
        light.mark(0, 3, 1, ArcLight.FREE);
        light.mark(0, 1, 2, ArcLight.FREE);
        light.mark(0, 1, 3, ArcLight.FORCED);
        light.correct(0, 1, 3);
        light.correct(0, 0, 2);
        Check.due("20: with crossings", light.matched(0), 3);
        light.mark(0, 1, 3, ArcLight.FREE);
        Check.due("20: of no words", Made.with().matched(0), 0);
        Check.fails("20: sentence 1", OUT, () -> light.matched(1));
        for (int head = 0; head < 3; head++) {
            light.mark(0, head, 3, ArcLight.FORBIDDEN);
        }
        Check.fails("20: no tree", STATE, () -> light.matched(0));
    }

    private static void promise21() {
        ArcLight light = Made.with(0, 1, 2);
        Made.correct(light, 0, 2, 3, 0);
        Check.due("21: all but the last", light.mend(0), 2);
        int[] changed = {4, 9, 16, 17, 20, 21, 22};
        int[] weights = {1, 1, -1, -1, -1, 2, -1};
        for (int i = 0; i < changed.length; i++) {
            Check.due("21: weight " + changed[i], light.weight(changed[i]), weights[i]);
        }
        Check.due("21: untouched", light.weight(18), 0);
        Check.due("21: nothing differs", light.mend(0), 0);
        Check.due("21: weight 21 still", light.weight(21), 2);
        Check.due("21: steps", light.steps(), 2);
        ArcLight grown = Made.with(0, 1);
        grown.setWeight(4, 100);
        grown.setWeight(16, -100);
        grown.mark(0, 0, 1, ArcLight.FORCED);
        grown.mark(0, 0, 2, ArcLight.FORCED);
        Made.correct(grown, 0, 2, 0);
        Check.due("21: beyond what can be set", grown.mend(0), 1);
        Check.due("21: weight 101", grown.weight(4), 101);
        Check.due("21: weight -101", grown.weight(16), -101);
        Check.due("7: of a mended weight", grown.setWeight(4, 0), 101);
    }

    private static void promise21WithCrossings() {
        ArcLight light = Made.with(0, 1, 2);
        Made.correct(light, 0, 0, 0, 1);
        light.mark(0, 1, 3, ArcLight.FORCED);
        Check.due("21: the best tree has crossings", light.mend(0), 0);
        light.mark(0, 1, 3, ArcLight.FREE);
        Check.due("21: the last word alone", light.mend(0), 1);
        Check.due("21: its right arc", light.weight(2), 1);
        Check.due("21: its arc of the best tree", light.weight(18), -1);
        light.correct(0, 1, 2);
        light.correct(0, 3, 1);
        Check.fails("21: a circle beside the root", STATE, () -> light.mend(0));
    }

    private static void promise21Refuses() {
        ArcLight light = Made.with(0, 0);
        Check.fails("21: sentence 1", OUT, () -> light.mend(1));
        Check.fails("21: none told", STATE, () -> light.mend(0));
        light.correct(0, 2, 1);
        Check.fails("21: one told", STATE, () -> light.mend(0));
        light.correct(0, 1, 2);
        Check.fails("21: a circle", STATE, () -> light.mend(0));
        light.correct(0, 0, 2);
        light.mark(0, 2, 1, ArcLight.FORBIDDEN);
        Check.due("21: the right tree is not allowed", light.mend(0), 1);
        light.mark(0, 0, 1, ArcLight.FORBIDDEN);
        Check.fails("21: no allowed tree", STATE, () -> light.mend(0));
        Check.due("21: steps", light.steps(), 1);
        light.addWord(0, 0);
        light.mark(0, 0, 1, ArcLight.FREE);
        Check.fails("21: the new word is not told", STATE, () -> light.mend(0));
        Check.due("21: kept for rolling back", light.rollBack(), 0);
    }

    private static void promise22() {
        ArcLight light = Made.with();
        for (int step = 1; step <= 25; step++) {
            light.mend(0);
            Check.due("22: steps", light.steps(), step);
        }
        light.setWeight(0, 1);
        Check.due("22: setting is no step", light.steps(), 25);
        light.rollBack();
        Check.due("22: setting rolled back", light.steps(), 25);
        light.rollBack();
        Check.due("22: step rolled back", light.steps(), 24);
    }

    private static void promise23() {
        ArcLight light = Made.with();
        light.setWeight(3, 10);
        Check.due("23: without steps", light.average(3), 0.0);
        light.mend(0);
        light.setWeight(3, -5);
        Check.due("23: set behind the step", light.average(3), 10.0);
        light.mend(0);
        light.mend(0);
        Check.due("23: of three", light.average(3), 0.0);
        light.setWeight(3, 7);
        light.mend(0);
        Check.due("23: of four", light.average(3), 1.75);
        light.rollBack();
        Check.due("23: rolled back", light.average(3), 0.0);
        light.setWeight(3, 1);
        light.mend(0);
        Check.due("23: another fourth", light.average(3), 0.25);
        Check.due("23: last feature", light.average(27), 0.0);
        light.setWeight(0, 4);
        light.setWeight(27, -4);
        light.mend(0);
        Check.due("23: feature 0 of five", light.average(0), 0.8);
        Check.due("23: feature 27 of five", light.average(27), -0.8);
        Check.fails("23: feature 28", OUT, () -> light.average(28));
        for (int number : NO_NUMBERS) {
            Check.fails("23: feature " + number, OUT, () -> light.average(number));
        }
        ArcLight mended = Made.with(0);
        Made.correct(mended, 0, 0);
        mended.setWeight(16, 1);
        mended.mend(0);
        mended.setWeight(16, 0);
        mended.mend(0);
        mended.mend(0);
        Check.due("23: a third", mended.average(16), 1.0 / 3.0);
    }

    private static void promise24() {
        ArcLight light = Made.with(0, 1);
        Made.correct(light, 0, 2, 0);
        light.setWeight(4, 5);
        light.setWeight(4, -9);
        light.mend(0);
        light.setWeight(4, -8);
        Check.due("24: the setting", light.rollBack(), 3);
        Check.due("24: weight behind the step", light.weight(4), -8);
        Check.due("24: average of the step", light.average(4), -8.0);
        Check.due("24: the step", light.rollBack(), 2);
        Check.due("24: weight ahead of the step", light.weight(4), -9);
        Check.due("24: the other weight", light.weight(16), 0);
        Check.due("24: no steps", light.average(4), 0.0);
        Check.due("24: right heads are kept", light.correct(0, 2, 1), 2);
        Check.due("24: the second setting", light.rollBack(), 1);
        Check.due("24: weight", light.weight(4), 5);
        Check.due("24: the first setting", light.rollBack(), 0);
        Check.due("24: weight at first", light.weight(4), 0);
        Check.fails("24: none", STATE, light::rollBack);
        light.setWeight(4, 0);
        Check.due("24: a setting that changed nothing", light.rollBack(), 0);
        Check.fails("24: a refused one", ARGUMENT, () -> light.setWeight(4, 101));
        Check.fails("24: is not kept", STATE, light::rollBack);
    }

    private static void promise24Keeps20() {
        ArcLight light = new ArcLight();
        for (int weight = 1; weight <= 50; weight++) {
            light.setWeight(weight % 2, weight);
        }
        for (int left = 19; left >= 15; left--) {
            Check.due("24: left", light.rollBack(), left);
        }
        Check.due("24: behind five", List.of(light.weight(0), light.weight(1)), List.of(44, 45));
        for (int weight = 51; weight <= 53; weight++) {
            light.setWeight(0, weight);
        }
        for (int left = 17; left >= 0; left--) {
            Check.due("24: left then", light.rollBack(), left);
        }
        Check.due("24: behind the latest 20", List.of(light.weight(0), light.weight(1)), List.of(30, 29));
        Check.fails("24: older ones are forgotten", STATE, light::rollBack);
        Check.due("24: unchanged", List.of(light.weight(0), light.weight(1)), List.of(30, 29));
        light.setWeight(0, 1);
        Check.due("24: kept anew", light.rollBack(), 0);
    }
}
