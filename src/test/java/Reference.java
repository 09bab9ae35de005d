import java.util.ArrayList;
import java.util.Comparator;
import java.util.List;

/** The document once more, in the slowest and plainest form, for comparing whole runs of calls. */
final class Reference {
    private static final class Change {
        int[] weights;
        boolean isStep;
    }

    static final class Tree {
        int[] heads;
        int score;
    }

    private final List<List<Integer>> kinds = new ArrayList<>();
    private final List<int[][]> marks = new ArrayList<>();
    private final List<int[]> rights = new ArrayList<>();
    private int[] weights = new int[28];
    private final List<int[]> behindSteps = new ArrayList<>();
    private final List<Change> changes = new ArrayList<>();

    int addSentence() {
        if (kinds.size() == 5) {
            throw new IllegalStateException();
        }
        kinds.add(new ArrayList<>());
        marks.add(new int[7][7]);
        rights.add(new int[] {-1, -1, -1, -1, -1, -1, -1});
        return kinds.size() - 1;
    }

    int addWord(int sentence, int kind) {
        needSentence(sentence);
        if (kind < 0 || kind > 3) {
            throw new IllegalArgumentException();
        }
        if (words(sentence) == 6) {
            throw new IllegalStateException();
        }
        kinds.get(sentence).add(kind);
        return words(sentence);
    }

    int sentences() {
        return kinds.size();
    }

    int words(int sentence) {
        needSentence(sentence);
        return kinds.get(sentence).size();
    }

    int kind(int sentence, int word) {
        needWord(sentence, word);
        return kinds.get(sentence).get(word - 1);
    }

    int setWeight(int feature, int weight) {
        needFeature(feature);
        if (weight < -100 || weight > 100) {
            throw new IllegalArgumentException();
        }
        remember(false);
        int old = weights[feature];
        weights[feature] = weight;
        return old;
    }

    int weight(int feature) {
        needFeature(feature);
        return weights[feature];
    }

    int feature(int sentence, int head, int word, boolean isByDistance) {
        needArc(sentence, head, word);
        if (!isByDistance) {
            return 4 * (head == 0 ? 4 : kind(sentence, head)) + kind(sentence, word);
        }
        int distance = head < word ? word - head : head - word;
        int feature = 20 + 2 * (distance > 4 ? 4 : distance) - 2;
        return head > word ? feature + 1 : feature;
    }

    int score(int sentence, int head, int word) {
        needArc(sentence, head, word);
        return weights[feature(sentence, head, word, false)] + weights[feature(sentence, head, word, true)];
    }

    int mark(int sentence, int head, int word, int mark) {
        needArc(sentence, head, word);
        if (mark < 0 || mark > 2) {
            throw new IllegalArgumentException();
        }
        for (int other = 0; other <= words(sentence); other++) {
            if (mark == 1 && other != head && marks.get(sentence)[other][word] == 1) {
                throw new IllegalStateException();
            }
        }
        int old = marks.get(sentence)[head][word];
        marks.get(sentence)[head][word] = mark;
        return old;
    }

    int trees(int sentence, boolean crossing) {
        return all(sentence, crossing).size();
    }

    int best(int sentence, boolean crossing) {
        return first(sentence, crossing).score;
    }

    int head(int sentence, boolean crossing, int word) {
        needWord(sentence, word);
        return first(sentence, crossing).heads[word];
    }

    int crossings(int sentence) {
        return pairs(first(sentence, true).heads);
    }

    int ranked(int sentence, boolean crossing, int rank) {
        return nth(sentence, crossing, rank).score;
    }

    int rankedHead(int sentence, boolean crossing, int rank, int word) {
        needWord(sentence, word);
        return nth(sentence, crossing, rank).heads[word];
    }

    int correct(int sentence, int head, int word) {
        needArc(sentence, head, word);
        int old = rights.get(sentence)[word];
        rights.get(sentence)[word] = head;
        return old;
    }

    int matched(int sentence) {
        int[] heads = first(sentence, true).heads;
        int count = 0;
        for (int word = 1; word <= words(sentence); word++) {
            count += heads[word] == rights.get(sentence)[word] ? 1 : 0;
        }
        return count;
    }

    int mend(int sentence) {
        needSentence(sentence);
        int[] right = new int[words(sentence) + 1];
        for (int word = 1; word < right.length; word++) {
            right[word] = rights.get(sentence)[word];
            if (right[word] == -1) {
                throw new IllegalStateException();
            }
        }
        if (!isTree(right)) {
            throw new IllegalStateException();
        }
        int[] best = first(sentence, true).heads;
        remember(true);
        int count = 0;
        for (int word = 1; word < right.length; word++) {
            if (best[word] != right[word]) {
                count++;
                for (boolean isByDistance : new boolean[] {false, true}) {
                    weights[feature(sentence, right[word], word, isByDistance)]++;
                    weights[feature(sentence, best[word], word, isByDistance)]--;
                }
            }
        }
        behindSteps.add(weights.clone());
        return count;
    }

    int steps() {
        return behindSteps.size();
    }

    double average(int feature) {
        needFeature(feature);
        long sum = 0;
        for (int[] behind : behindSteps) {
            sum += behind[feature];
        }
        return behindSteps.isEmpty() ? 0.0 : (double) sum / (double) behindSteps.size();
    }

    int rollBack() {
        if (changes.isEmpty()) {
            throw new IllegalStateException();
        }
        Change latest = changes.remove(changes.size() - 1);
        weights = latest.weights;
        if (latest.isStep) {
            behindSteps.remove(behindSteps.size() - 1);
        }
        return changes.size();
    }

    private void remember(boolean isStep) {
        Change change = new Change();
        change.weights = weights.clone();
        change.isStep = isStep;
        changes.add(change);
        if (changes.size() > 20) {
            changes.remove(0);
        }
    }

    private Tree first(int sentence, boolean crossing) {
        List<Tree> trees = all(sentence, crossing);
        if (trees.isEmpty()) {
            throw new IllegalStateException();
        }
        return trees.get(0);
    }

    private Tree nth(int sentence, boolean crossing, int rank) {
        List<Tree> trees = all(sentence, crossing);
        if (rank < 0 || rank >= trees.size()) {
            throw new IndexOutOfBoundsException();
        }
        return trees.get(rank);
    }

    List<Tree> all(int sentence, boolean crossing) {
        int last = words(sentence);
        List<Tree> trees = new ArrayList<>();
        int rows = 1;
        for (int word = 1; word <= last; word++) {
            rows *= last + 1;
        }
        for (int row = 0; row < rows; row++) {
            int[] heads = new int[last + 1];
            int rest = row;
            for (int word = 1; word <= last; word++) {
                heads[word] = rest % (last + 1);
                rest /= last + 1;
            }
            if (isTree(heads) && isAllowed(sentence, heads) && (crossing || pairs(heads) == 0)) {
                Tree tree = new Tree();
                tree.heads = heads;
                for (int word = 1; word <= last; word++) {
                    tree.score += score(sentence, heads[word], word);
                }
                trees.add(tree);
            }
        }
        trees.sort(Comparator.comparingInt((Tree tree) -> -tree.score)
                .thenComparing(tree -> tree.heads, java.util.Arrays::compare));
        return trees;
    }

    private boolean isAllowed(int sentence, int[] heads) {
        for (int word = 1; word < heads.length; word++) {
            for (int head = 0; head < heads.length; head++) {
                int mark = marks.get(sentence)[head][word];
                if (mark == 2 && heads[word] == head || mark == 1 && heads[word] != head) {
                    return false;
                }
            }
        }
        return true;
    }

    private static boolean isTree(int[] heads) {
        for (int word = 1; word < heads.length; word++) {
            int place = word;
            for (int step = 0; step < 10; step++) {
                place = place == 0 ? 0 : heads[place];
            }
            if (place != 0) {
                return false;
            }
        }
        return true;
    }

    static int pairs(int[] heads) {
        int count = 0;
        for (int word = 1; word < heads.length; word++) {
            for (int other = word + 1; other < heads.length; other++) {
                boolean isHeadInside = isBetween(heads[other], heads[word], word);
                boolean isWordInside = isBetween(other, heads[word], word);
                boolean isHeadBeyond = isBeyond(heads[other], heads[word], word);
                boolean isWordBeyond = isBeyond(other, heads[word], word);
                count += isHeadInside && isWordBeyond || isWordInside && isHeadBeyond ? 1 : 0;
            }
        }
        return count;
    }

    private static boolean isBetween(int place, int one, int other) {
        return one < place && place < other || other < place && place < one;
    }

    private static boolean isBeyond(int place, int one, int other) {
        return place < one && place < other || place > one && place > other;
    }

    private void needSentence(int sentence) {
        if (sentence < 0 || sentence >= kinds.size()) {
            throw new IndexOutOfBoundsException();
        }
    }

    private void needWord(int sentence, int word) {
        if (word < 1 || word > words(sentence)) {
            throw new IndexOutOfBoundsException();
        }
    }

    private void needArc(int sentence, int head, int word) {
        needWord(sentence, word);
        if (head < 0 || head > words(sentence)) {
            throw new IndexOutOfBoundsException();
        }
        if (head == word) {
            throw new IllegalArgumentException();
        }
    }

    private void needFeature(int feature) {
        if (feature < 0 || feature >= 28) {
            throw new IndexOutOfBoundsException();
        }
    }
}
