import java.util.ArrayList;
import java.util.List;

/**
 * Refused calls: what each throws clause of the document names, in its order if several apply, and
 * that nothing is changed then. Each call is made on an object of its own, which afterwards must
 * tell the same as a twin that was spared the call.
 */
public final class RefusalsTest {
    private static final Class<IndexOutOfBoundsException> OUT = IndexOutOfBoundsException.class;
    private static final Class<IllegalArgumentException> ARGUMENT = IllegalArgumentException.class;
    private static final Class<IllegalStateException> STATE = IllegalStateException.class;

    private static final int LONG = 0;
    private static final int TREELESS = 1;
    private static final int EMPTY = 2;
    private static final int CROSSED = 3;
    private static final int SHORT = 4;

    private interface Maker {
        ArcLight make();
    }

    private interface Refused {
        Object call(ArcLight light);
    }

    private record Row(String what, Class<? extends RuntimeException> want, Refused refused) {
    }

    private static final List<Row> ROWS = new ArrayList<>();

    public static void main(String[] args) {
        Check.sentence("addSentence", () -> onFull(RefusalsTest::addSentence));
        Check.sentence("addWord", () -> onFull(RefusalsTest::addWord));
        Check.sentence("words and kind", () -> onFull(RefusalsTest::wordsAndKind));
        Check.sentence("setWeight, weight and average", () -> onFull(RefusalsTest::weights));
        Check.sentence("feature", () -> onFull(() -> arcs("feature", (x, s, h, w) -> x.feature(s, h, w, true))));
        Check.sentence("score", () -> onFull(() -> arcs("score", (x, s, h, w) -> x.score(s, h, w))));
        Check.sentence("correct", () -> onFull(() -> arcs("correct", (x, s, h, w) -> x.correct(s, h, w))));
        Check.sentence("mark", () -> onFull(RefusalsTest::mark));
        Check.sentence("trees, best and bestByTrying", () -> onFull(RefusalsTest::best));
        Check.sentence("head", () -> onFull(RefusalsTest::head));
        Check.sentence("ranked and rankedHead", () -> onFull(RefusalsTest::ranks));
        Check.sentence("crossings, matched and mend", () -> onFull(RefusalsTest::mending));
        Check.sentence("rollBack", RefusalsTest::rollBack);
        Check.sentence("no sentence yet", () -> onTwins(ArcLight::new, () -> noSentence(0)));
        Check.sentence("one sentence", () -> onTwins(() -> Made.alike(3), () -> noSentence(1)));
        Check.sentence("five sentences", () -> onFull(() -> noSentence(5)));
        Check.end("RefusalsTest");
    }

    /** Five sentences, each in another state, and seven changes that can be rolled back. */
    private static ArcLight full() {
        ArcLight light = new ArcLight();
        Made.addSentence(light, 0, 1, 2, 3, 0, 1);
        Made.addSentence(light, 3, 3);
        Made.addSentence(light);
        Made.addSentence(light, 1, 1, 2, 2);
        Made.addSentence(light, 2);
        light.mark(LONG, 2, 1, ArcLight.FORCED);
        light.mark(LONG, 0, 3, ArcLight.FORBIDDEN);
        Made.correct(light, LONG, 2, 3, 0, 1, 6);
        Made.forbidAll(light, TREELESS, 1);
        Made.correct(light, TREELESS, 0, 1);
        Made.force(light, CROSSED, 3, 4);
        Made.correct(light, CROSSED, 2, 1, 0, 0);
        Made.correct(light, SHORT, 0);
        for (int change = 0; change < 5; change++) {
            light.setWeight(change * 5, 20 - change * 9);
        }
        light.mend(SHORT);
        light.setWeight(18, 3);
        return light;
    }

    /** The full object, with nothing that can be rolled back. */
    private static ArcLight rolledBack() {
        ArcLight light = full();
        for (int change = 0; change < 7; change++) {
            light.rollBack();
        }
        return light;
    }

    private static void refuse(String what, Class<? extends RuntimeException> want, Refused refused) {
        ROWS.add(new Row(what, want, refused));
    }

    private static void onFull(Runnable rows) {
        onTwins(RefusalsTest::full, rows);
    }

    /** Makes each of the rows' calls on an object of its own, and compares it with its twin. */
    private static void onTwins(Maker maker, Runnable rows) {
        ROWS.clear();
        rows.run();
        String due = Made.usedUp(maker.make());
        for (Row row : ROWS) {
            ArcLight light = maker.make();
            Check.fails(row.what(), row.want(), () -> row.refused().call(light));
            Check.due("what is told behind " + row.what(), Made.usedUp(light), due);
        }
    }

    private static void addSentence() {
        refuse("addSentence of a sixth one", STATE, x -> x.addSentence());
    }

    private static void addWord() {
        refuse("addWord, the sentence is full", STATE, x -> x.addWord(LONG, 3));
        refuse("addWord, full, and no such kind", ARGUMENT, x -> x.addWord(LONG, 4));
        refuse("addWord, full, and no such kind", ARGUMENT, x -> x.addWord(LONG, -1));
        refuse("addWord, no such sentence or kind", OUT, x -> x.addWord(5, 4));
        refuse("addWord, kind 4", ARGUMENT, x -> x.addWord(EMPTY, 4));
        for (int number : Made.NO_NUMBERS) {
            refuse("addWord, sentence " + number, OUT, x -> x.addWord(number, 0));
            refuse("addWord, sentence and kind " + number, OUT, x -> x.addWord(number, number));
            refuse("addWord, kind " + number, ARGUMENT, x -> x.addWord(SHORT, number));
        }
    }

    private static void wordsAndKind() {
        refuse("kind of the root", OUT, x -> x.kind(LONG, 0));
        refuse("kind of the word 7", OUT, x -> x.kind(LONG, 7));
        refuse("kind of the word 3 of two", OUT, x -> x.kind(TREELESS, 3));
        refuse("kind of the word 1 of none", OUT, x -> x.kind(EMPTY, 1));
        for (int number : Made.NO_NUMBERS) {
            refuse("words of " + number, OUT, x -> x.words(number));
            refuse("kind in " + number, OUT, x -> x.kind(number, 1));
            refuse("kind of " + number, OUT, x -> x.kind(LONG, number));
        }
    }

    private static void weights() {
        refuse("setWeight to 101", ARGUMENT, x -> x.setWeight(0, 101));
        refuse("setWeight to -101", ARGUMENT, x -> x.setWeight(27, -101));
        refuse("setWeight of 28", OUT, x -> x.setWeight(28, 0));
        refuse("setWeight of 28 to 101", OUT, x -> x.setWeight(28, 101));
        refuse("setWeight of -1 to -101", OUT, x -> x.setWeight(-1, -101));
        refuse("weight of 28", OUT, x -> x.weight(28));
        refuse("average of 28", OUT, x -> x.average(28));
        refuse("setWeight to the least number", ARGUMENT, x -> x.setWeight(0, Integer.MIN_VALUE));
        refuse("setWeight to the greatest number", ARGUMENT, x -> x.setWeight(0, Integer.MAX_VALUE));
        for (int number : Made.NO_NUMBERS) {
            refuse("setWeight of " + number, OUT, x -> x.setWeight(number, 0));
            refuse("weight of " + number, OUT, x -> x.weight(number));
            refuse("average of " + number, OUT, x -> x.average(number));
        }
    }

    private interface ArcCall {
        Object call(ArcLight light, int sentence, int head, int word);
    }

    /** What the calls that take an arc refuse alike. */
    private static void arcs(String name, ArcCall call) {
        refuse(name + ", head 7", OUT, x -> call.call(x, LONG, 7, 1));
        refuse(name + ", word 7", OUT, x -> call.call(x, LONG, 1, 7));
        refuse(name + ", both 7", OUT, x -> call.call(x, LONG, 7, 7));
        refuse(name + ", word 0", OUT, x -> call.call(x, LONG, 1, 0));
        refuse(name + ", both 0", OUT, x -> call.call(x, LONG, 0, 0));
        refuse(name + ", both -1", OUT, x -> call.call(x, LONG, -1, -1));
        refuse(name + ", head 3 of two", OUT, x -> call.call(x, TREELESS, 3, 1));
        refuse(name + ", word 3 of two", OUT, x -> call.call(x, TREELESS, 0, 3));
        refuse(name + ", word 1 of none", OUT, x -> call.call(x, EMPTY, 0, 1));
        refuse(name + ", both 1 of none", OUT, x -> call.call(x, EMPTY, 1, 1));
        refuse(name + ", no sentence, and the same", OUT, x -> call.call(x, 5, 1, 1));
        refuse(name + ", no sentence, and no arc", OUT, x -> call.call(x, -1, -1, 0));
        refuse(name + ", both 1 of one", ARGUMENT, x -> call.call(x, SHORT, 1, 1));
        for (int place = 1; place <= 6; place++) {
            int both = place;
            refuse(name + ", both " + both, ARGUMENT, x -> call.call(x, LONG, both, both));
        }
        for (int number : Made.NO_NUMBERS) {
            refuse(name + ", sentence " + number, OUT, x -> call.call(x, number, 0, 1));
            refuse(name + ", head " + number, OUT, x -> call.call(x, LONG, number, 1));
            refuse(name + ", word " + number, OUT, x -> call.call(x, LONG, 1, number));
        }
    }

    private static void mark() {
        for (int mark : new int[] {ArcLight.FREE, ArcLight.FORCED, ArcLight.FORBIDDEN, 3, -1}) {
            arcs("mark " + mark, (x, s, h, w) -> x.mark(s, h, w, mark));
        }
        refuse("mark, another is forced", STATE, x -> x.mark(LONG, 0, 1, ArcLight.FORCED));
        refuse("mark, another is forced", STATE, x -> x.mark(LONG, 6, 1, ArcLight.FORCED));
        refuse("mark, the same, and another is forced", ARGUMENT, x -> x.mark(LONG, 1, 1, ArcLight.FORCED));
        refuse("mark 3, and another is forced", ARGUMENT, x -> x.mark(LONG, 0, 1, 3));
        refuse("mark -1 of the forced arc", ARGUMENT, x -> x.mark(LONG, 2, 1, -1));
        refuse("mark, no head, and another is forced", OUT, x -> x.mark(LONG, 7, 1, ArcLight.FORCED));
        for (int number : Made.NO_NUMBERS) {
            refuse("mark " + number, ARGUMENT, x -> x.mark(LONG, 0, 3, number));
            refuse("mark " + number + ", the same", ARGUMENT, x -> x.mark(LONG, 3, 3, number));
            refuse("mark " + number + ", no word", OUT, x -> x.mark(LONG, 0, 7, number));
        }
    }

    private static void best() {
        for (boolean crossing : Made.BOTH_WAYS) {
            refuse("best, no tree", STATE, x -> x.best(TREELESS, crossing));
            refuse("bestByTrying, no tree", STATE, x -> x.bestByTrying(TREELESS, crossing));
            for (int number : Made.NO_NUMBERS) {
                refuse("trees of " + number, OUT, x -> x.trees(number, crossing));
                refuse("best of " + number, OUT, x -> x.best(number, crossing));
                refuse("bestByTrying of " + number, OUT, x -> x.bestByTrying(number, crossing));
            }
        }
        refuse("best, no tree without crossings", STATE, x -> x.best(CROSSED, false));
        refuse("bestByTrying, no tree without crossings", STATE, x -> x.bestByTrying(CROSSED, false));
    }

    private static void head() {
        for (boolean crossing : Made.BOTH_WAYS) {
            refuse("head, no tree", STATE, x -> x.head(TREELESS, crossing, 1));
            refuse("head, no tree, and no word 3", OUT, x -> x.head(TREELESS, crossing, 3));
            refuse("head, no tree, and no word 0", OUT, x -> x.head(TREELESS, crossing, 0));
            refuse("head of the word 7", OUT, x -> x.head(LONG, crossing, 7));
            refuse("head of the root", OUT, x -> x.head(LONG, crossing, 0));
            refuse("head of the word 1 of none", OUT, x -> x.head(EMPTY, crossing, 1));
            for (int number : Made.NO_NUMBERS) {
                refuse("head in " + number, OUT, x -> x.head(number, crossing, 1));
                refuse("head of " + number, OUT, x -> x.head(LONG, crossing, number));
                refuse("head of " + number + ", no tree", OUT, x -> x.head(TREELESS, crossing, number));
            }
        }
        refuse("head, no tree without crossings", STATE, x -> x.head(CROSSED, false, 4));
        refuse("head, no such tree or word", OUT, x -> x.head(CROSSED, false, 5));
    }

    private static void ranks() {
        for (boolean crossing : Made.BOTH_WAYS) {
            refuse("ranked, no tree", OUT, x -> x.ranked(TREELESS, crossing, 0));
            refuse("rankedHead, no tree", OUT, x -> x.rankedHead(TREELESS, crossing, 0, 1));
            refuse("ranked, rank 1 of one", OUT, x -> x.ranked(SHORT, crossing, 1));
            refuse("rankedHead, rank 1 of one", OUT, x -> x.rankedHead(SHORT, crossing, 1, 1));
            refuse("ranked, rank 1 of no words", OUT, x -> x.ranked(EMPTY, crossing, 1));
            refuse("rankedHead, no words", OUT, x -> x.rankedHead(EMPTY, crossing, 0, 1));
            refuse("rankedHead of the root", OUT, x -> x.rankedHead(LONG, crossing, 0, 0));
            refuse("rankedHead of the word 7", OUT, x -> x.rankedHead(LONG, crossing, 0, 7));
            for (int number : Made.NO_NUMBERS) {
                refuse("ranked in " + number, OUT, x -> x.ranked(number, crossing, 0));
                refuse("ranked by " + number, OUT, x -> x.ranked(LONG, crossing, number));
                refuse("rankedHead in " + number, OUT, x -> x.rankedHead(number, crossing, 0, 1));
                refuse("rankedHead by " + number, OUT, x -> x.rankedHead(LONG, crossing, number, 1));
                refuse("rankedHead of " + number, OUT, x -> x.rankedHead(LONG, crossing, 0, number));
            }
        }
        refuse("ranked, no tree without crossings", OUT, x -> x.ranked(CROSSED, false, 0));
        refuse("rankedHead, no tree without crossings", OUT, x -> x.rankedHead(CROSSED, false, 0, 1));
        refuse("ranked, one too many", OUT, x -> x.ranked(CROSSED, true, x.trees(CROSSED, true)));
    }

    private static void mending() {
        refuse("crossings, no tree", STATE, x -> x.crossings(TREELESS));
        refuse("matched, no tree", STATE, x -> x.matched(TREELESS));
        refuse("mend, no tree", STATE, x -> x.mend(TREELESS));
        refuse("mend, not all told", STATE, x -> x.mend(LONG));
        refuse("mend, told in a circle", STATE, x -> x.mend(CROSSED));
        for (int number : Made.NO_NUMBERS) {
            refuse("crossings of " + number, OUT, x -> x.crossings(number));
            refuse("matched of " + number, OUT, x -> x.matched(number));
            refuse("mend by " + number, OUT, x -> x.mend(number));
        }
    }

    private static void rollBack() {
        onTwins(RefusalsTest::rolledBack, () -> refuse("rollBack, none left", STATE, x -> x.rollBack()));
        onTwins(ArcLight::new, () -> refuse("rollBack, none ever", STATE, x -> x.rollBack()));
    }

    /** All calls that take a sentence, of one that is not there; the other arguments are good ones. */
    private static void noSentence(int sentence) {
        refuse("addWord", OUT, x -> x.addWord(sentence, 0));
        refuse("words", OUT, x -> x.words(sentence));
        refuse("kind", OUT, x -> x.kind(sentence, 1));
        refuse("feature", OUT, x -> x.feature(sentence, 0, 1, false));
        refuse("score", OUT, x -> x.score(sentence, 0, 1));
        refuse("mark", OUT, x -> x.mark(sentence, 0, 1, ArcLight.FREE));
        refuse("trees", OUT, x -> x.trees(sentence, true));
        refuse("best", OUT, x -> x.best(sentence, true));
        refuse("best without crossings", OUT, x -> x.best(sentence, false));
        refuse("bestByTrying", OUT, x -> x.bestByTrying(sentence, true));
        refuse("head", OUT, x -> x.head(sentence, true, 1));
        refuse("crossings", OUT, x -> x.crossings(sentence));
        refuse("ranked", OUT, x -> x.ranked(sentence, true, 0));
        refuse("rankedHead", OUT, x -> x.rankedHead(sentence, true, 0, 1));
        refuse("correct", OUT, x -> x.correct(sentence, 0, 1));
        refuse("matched", OUT, x -> x.matched(sentence));
        refuse("mend", OUT, x -> x.mend(sentence));
    }
}
