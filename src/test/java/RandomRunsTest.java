import java.util.List;
import java.util.Random;

/** Whole runs of calls, drawn from written seeds, answered as the reference answers them. */
public final class RandomRunsTest {
    private static final int[] ODD = {Integer.MIN_VALUE, -101, -2, -1, 7, 28, 101, 16807, Integer.MAX_VALUE};

    private final Random random;
    private final int mostWords;
    private final int weightRange;
    private final String name;
    private ArcLight light = new ArcLight();
    private Reference reference = new Reference();

    private RandomRunsTest(int seed, int mostWords, int weightRange) {
        random = new Random(seed);
        this.mostWords = mostWords;
        this.weightRange = weightRange;
        name = "run " + seed;
    }

    public static void main(String[] args) {
        for (int seed = 1; seed <= 400; seed++) {
            new RandomRunsTest(seed, 4, seed % 3 == 0 ? 100 : seed % 3 * 2).run(512);
        }
        for (int seed = 401; seed <= 420; seed++) {
            new RandomRunsTest(seed, 5, seed % 2 == 0 ? 100 : 3).run(512);
        }
        for (int seed = 421; seed <= 430; seed++) {
            new RandomRunsTest(seed, 6, seed % 2 == 0 ? 100 : 2).run(200);
        }
        for (int seed = 431; seed <= 442; seed++) {
            new RandomRunsTest(seed, 6, seed % 3 == 0 ? 100 : seed % 3).rankSixWords();
        }
        for (int seed = 443; seed <= 742; seed++) {
            new RandomRunsTest(seed, 6, seed % 3 == 0 ? 100 : seed % 3).agree();
        }
        Check.end("RandomRunsTest");
    }

    /** Tables, circles and trying must come to the same tree, also among many marks. */
    private void agree() {
        light.addSentence();
        for (int word = 1; word <= 6; word++) {
            light.addWord(0, random.nextInt(4));
        }
        for (int feature = 0; feature < 28; feature++) {
            light.setWeight(feature, random.nextInt(2 * weightRange + 1) - weightRange);
        }
        for (int round = 0; round < 25; round++) {
            int head = random.nextInt(7);
            int word = 1 + random.nextInt(6);
            int mark = 2 - random.nextInt(5) / 2;
            Check.answerOf(() -> light.mark(0, head, word, mark));
            same(name + ": best of all", () -> light.best(0, true), () -> light.bestByTrying(0, true));
            same(name + ": best plain", () -> light.best(0, false), () -> light.bestByTrying(0, false));
            boolean crossing = round % 3 != 0;
            if (light.trees(0, crossing) > 0) {
                same(name + ": head", () -> light.head(0, crossing, word),
                        () -> light.rankedHead(0, crossing, 0, word));
            }
        }
    }

    /** Ranks all over the trees of one long sentence, of which some arcs are marked. */
    private void rankSixWords() {
        light.addSentence();
        reference.addSentence();
        for (int word = 1; word <= 6; word++) {
            int kind = random.nextInt(4);
            light.addWord(0, kind);
            reference.addWord(0, kind);
        }
        for (int feature = 0; feature < 28; feature++) {
            int weight = random.nextInt(2 * weightRange + 1) - weightRange;
            light.setWeight(feature, weight);
            reference.setWeight(feature, weight);
        }
        if (random.nextBoolean()) {
            same(name + ": mark", () -> light.mark(0, 5, 2, 1), () -> reference.mark(0, 5, 2, 1));
            same(name + ": mark", () -> light.mark(0, 0, 3, 2), () -> reference.mark(0, 0, 3, 2));
        }
        for (boolean crossing : new boolean[] {true, false}) {
            List<Reference.Tree> trees = reference.all(0, crossing);
            Check.due(name + ": trees", light.trees(0, crossing), trees.size());
            for (int i = 0; i < 32; i++) {
                dueTree(crossing, i * (trees.size() - 1) / 31, trees);
            }
        }
    }

    private void dueTree(boolean crossing, int rank, List<Reference.Tree> trees) {
        Check.due(name + ": rank " + rank, light.ranked(0, crossing, rank), trees.get(rank).score);
        for (int word = 1; word <= 6; word++) {
            Check.due(name + ": head of " + word + " in rank " + rank,
                    light.rankedHead(0, crossing, rank, word), trees.get(rank).heads[word]);
        }
    }

    private void run(int calls) {
        for (int call = 0; call < calls; call++) {
            step(call);
        }
    }

    private void step(int number) {
        int s = pick(0, Math.min(4, reference.sentences()));
        int size = s >= 0 && s < reference.sentences() ? reference.words(s) : 3;
        int w = pick(1, size);
        int h = pick(0, size);
        int f = pick(0, 27);
        int weight = pick(-weightRange, weightRange);
        int kind = pick(0, 3);
        int mark = pick(0, random.nextInt(3));
        boolean flag = random.nextBoolean();
        String at = name + ", call " + number + ": ";
        switch (random.nextInt(30)) {
            case 0 -> same(at + "addSentence", () -> light.addSentence(), () -> reference.addSentence());
            case 1, 2, 3 -> {
                if (size < mostWords || mostWords == 6) {
                    same(at + "addWord", () -> light.addWord(s, kind), () -> reference.addWord(s, kind));
                }
            }
            case 4 -> same(at + "sentences", () -> light.sentences(), () -> reference.sentences());
            case 5 -> same(at + "words", () -> light.words(s), () -> reference.words(s));
            case 6 -> same(at + "kind", () -> light.kind(s, w), () -> reference.kind(s, w));
            case 7, 8, 9 -> same(at + "setWeight", () -> light.setWeight(f, weight),
                    () -> reference.setWeight(f, weight));
            case 10 -> same(at + "weight", () -> light.weight(f), () -> reference.weight(f));
            case 11 -> same(at + "feature", () -> light.feature(s, h, w, flag),
                    () -> reference.feature(s, h, w, flag));
            case 12 -> same(at + "score", () -> light.score(s, h, w), () -> reference.score(s, h, w));
            case 13, 14 -> same(at + "mark", () -> light.mark(s, h, w, mark), () -> reference.mark(s, h, w, mark));
            case 15 -> same(at + "trees", () -> light.trees(s, flag), () -> reference.trees(s, flag));
            case 16 -> same(at + "best", () -> light.best(s, flag), () -> reference.best(s, flag));
            case 17 -> same(at + "bestByTrying", () -> light.bestByTrying(s, flag), () -> reference.best(s, flag));
            case 18, 19 -> same(at + "head", () -> light.head(s, flag, w), () -> reference.head(s, flag, w));
            case 20 -> same(at + "crossings", () -> light.crossings(s), () -> reference.crossings(s));
            case 21 -> askRank(at, s, flag, w);
            case 22, 23 -> same(at + "correct", () -> light.correct(s, h, w), () -> reference.correct(s, h, w));
            case 24 -> tellTree(at, s, size);
            case 25 -> same(at + "matched", () -> light.matched(s), () -> reference.matched(s));
            case 26, 27 -> same(at + "mend", () -> light.mend(s), () -> reference.mend(s));
            case 28 -> {
                same(at + "steps", () -> light.steps(), () -> reference.steps());
                same(at + "average", () -> light.average(f), () -> reference.average(f));
            }
            default -> {
                if (flag) {
                    same(at + "rollBack", () -> light.rollBack(), () -> reference.rollBack());
                }
            }
        }
    }

    private void askRank(String at, int s, boolean flag, int w) {
        boolean isThere = s >= 0 && s < reference.sentences();
        int rank = pick(0, isThere ? reference.trees(s, flag) : 3);
        same(at + "ranked", () -> light.ranked(s, flag, rank), () -> reference.ranked(s, flag, rank));
        same(at + "rankedHead", () -> light.rankedHead(s, flag, rank, w),
                () -> reference.rankedHead(s, flag, rank, w));
    }

    /** Right heads that lead to the left always make a tree, so mending comes to pass often. */
    private void tellTree(String at, int s, int size) {
        for (int word = 1; word <= size; word++) {
            int w = word;
            int h = random.nextInt(word);
            same(at + "correct", () -> light.correct(s, h, w), () -> reference.correct(s, h, w));
        }
    }

    private int pick(int low, int high) {
        if (random.nextInt(40) == 0) {
            return ODD[random.nextInt(ODD.length)];
        }
        return high < low ? low : low + random.nextInt(high - low + 1);
    }

    private void same(String what, Check.Call got, Check.Call want) {
        Check.due(what, Check.answerOf(got), Check.answerOf(want));
    }
}
