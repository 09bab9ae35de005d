import java.util.Arrays;

/**
 * A parser of dependencies between words: arcs are scored by features with weights, the trees of
 * greatest score are told with and without crossings, an editor forces and forbids arcs, all trees
 * are ranked, and weights are mended by corrected trees, averaged and rolled back.
 *
 * <p>Trees are compared by keys. The key of an arc is its score times ROWS_OF_HEADS, less its head
 * as a digit of its word; that of a tree is the sum over its arcs. So the tree that comes first has
 * the greatest key, no two trees of a sentence share a key, and a key tells the score and the heads.
 */
public final class ArcLight {
    public static final int NONE = -1;
    public static final int FREE = 0, FORCED = 1, FORBIDDEN = 2;

    private static final int MOST_SENTENCES = 5;
    private static final int MOST_WORDS = 6;
    private static final int PLACES = MOST_WORDS + 1;
    private static final int KINDS = 4;
    private static final int ROOT = 0;
    private static final int ROOT_KIND = KINDS;
    private static final int FEATURES = 28;
    private static final int FIRST_BY_DISTANCE = 20;
    private static final int FAR = 4;
    private static final int MOST_WEIGHT = 100;
    private static final int MOST_ROLL_BACKS = 20;
    private static final int MOST_TREES = 16807;
    private static final long ROWS_OF_HEADS = 117649;
    private static final int BITS_OF_KEY = 64;
    /** What one more in the head of a word, by the word's place, takes from a key. */
    private static final long[] HEAD_VALUES = {0, 16807, 2401, 343, 49, 7, 1};
    /** Stands where there is no arc or no tree: lower than every key. */
    private static final long NO_KEY = 1L << 63;

    private final Sentence[] all = new Sentence[MOST_SENTENCES];
    private int count = 0;
    private final Weights weights = new Weights();
    private final ArcKeys arcs = new ArcKeys();
    private final Spans spans = new Spans();
    private final Circles circles = new Circles();
    private final Trial trial = new Trial();

    public ArcLight() {
    }

    // ---- sentences

    public int addSentence() throws IllegalStateException {
        if (count < 0 || count >= all.length) {
            throw new IllegalStateException("no more sentences can be added");
        }
        all[count] = new Sentence();
        count++;
        return count - 1;
    }

    public int addWord(int sentence, int kind)
            throws IndexOutOfBoundsException, IllegalArgumentException, IllegalStateException {
        Sentence found = find(sentence);
        if (kind < 0 || kind >= KINDS) {
            throw new IllegalArgumentException("the kind is out of range");
        }
        if (found.size() >= MOST_WORDS) {
            throw new IllegalStateException("no more words can be added");
        }
        found.append(kind);
        return found.size();
    }

    public int sentences() {
        return count;
    }

    public int words(int sentence) throws IndexOutOfBoundsException {
        return find(sentence).size();
    }

    public int kind(int sentence, int word) throws IndexOutOfBoundsException {
        Sentence found = find(sentence);
        checkWord(found, word);
        return found.kindAt(word);
    }

    // ---- features, scores and marks

    public int setWeight(int feature, int weight)
            throws IndexOutOfBoundsException, IllegalArgumentException {
        checkFeature(feature);
        if (weight < -MOST_WEIGHT || weight > MOST_WEIGHT) {
            throw new IllegalArgumentException("the weight is out of range");
        }
        int old = weights.get(feature);
        weights.keep();
        weights.put(feature, weight);
        return old;
    }

    public int weight(int feature) throws IndexOutOfBoundsException {
        checkFeature(feature);
        return weights.get(feature);
    }

    public int feature(int sentence, int head, int word, boolean isByDistance)
            throws IndexOutOfBoundsException, IllegalArgumentException {
        Sentence found = find(sentence);
        checkArc(found, head, word);
        return isByDistance ? byDistance(head, word) : found.byKinds(head, word);
    }

    public int score(int sentence, int head, int word)
            throws IndexOutOfBoundsException, IllegalArgumentException {
        Sentence found = find(sentence);
        checkArc(found, head, word);
        return weights.ofArc(found, head, word);
    }

    public int mark(int sentence, int head, int word, int mark)
            throws IndexOutOfBoundsException, IllegalArgumentException, IllegalStateException {
        Sentence found = find(sentence);
        checkArc(found, head, word);
        if (mark != FREE && mark != FORCED && mark != FORBIDDEN) {
            throw new IllegalArgumentException("the mark is out of range");
        }
        int forced = found.forcedHead(word);
        if (mark == FORCED && forced != NONE && forced != head) {
            throw new IllegalStateException("another arc to the word is forced");
        }
        return found.changeMark(head, word, mark);
    }

    // ---- trees

    public int trees(int sentence, boolean crossing) throws IndexOutOfBoundsException {
        return tryAll(find(sentence), crossing).size();
    }

    public int best(int sentence, boolean crossing)
            throws IndexOutOfBoundsException, IllegalStateException {
        return scoreIn(bestKey(find(sentence), crossing));
    }

    public int bestByTrying(int sentence, boolean crossing)
            throws IndexOutOfBoundsException, IllegalStateException {
        long key = tryAll(find(sentence), crossing).greatest();
        checkTree(key);
        return scoreIn(key);
    }

    public int head(int sentence, boolean crossing, int word)
            throws IndexOutOfBoundsException, IllegalStateException {
        Sentence found = find(sentence);
        checkWord(found, word);
        return headIn(bestKey(found, crossing), word);
    }

    public int crossings(int sentence) throws IndexOutOfBoundsException, IllegalStateException {
        Sentence found = find(sentence);
        long key = bestKey(found, true);
        int pairs = 0;
        for (int word = 2; word <= found.size(); word++) {
            for (int other = 1; other < word; other++) {
                if (doCross(headIn(key, word), word, headIn(key, other), other)) {
                    pairs++;
                }
            }
        }
        return pairs;
    }

    public int ranked(int sentence, boolean crossing, int rank) throws IndexOutOfBoundsException {
        return scoreIn(rankedKey(find(sentence), crossing, rank));
    }

    public int rankedHead(int sentence, boolean crossing, int rank, int word)
            throws IndexOutOfBoundsException {
        Sentence found = find(sentence);
        checkWord(found, word);
        return headIn(rankedKey(found, crossing, rank), word);
    }

    // ---- corrections and mending

    public int correct(int sentence, int head, int word)
            throws IndexOutOfBoundsException, IllegalArgumentException {
        Sentence found = find(sentence);
        checkArc(found, head, word);
        return found.changeRightHead(head, word);
    }

    public int matched(int sentence) throws IndexOutOfBoundsException, IllegalStateException {
        Sentence found = find(sentence);
        long key = bestKey(found, true);
        int matches = 0;
        for (int word = 1; word <= found.size(); word++) {
            if (found.rightHead(word) == headIn(key, word)) {
                matches++;
            }
        }
        return matches;
    }

    public int mend(int sentence) throws IndexOutOfBoundsException, IllegalStateException {
        Sentence found = find(sentence);
        if (!found.hasRightTree()) {
            throw new IllegalStateException("the right heads are not all told, or make no tree");
        }
        long key = bestKey(found, true);
        weights.keep();
        int differing = 0;
        for (int word = 1; word <= found.size(); word++) {
            int right = found.rightHead(word);
            int guessed = headIn(key, word);
            if (right != guessed) {
                differing++;
                weights.addToArc(found, right, word, 1);
                weights.addToArc(found, guessed, word, -1);
            }
        }
        weights.endStep();
        return differing;
    }

    public int steps() {
        return weights.stepCount();
    }

    public double average(int feature) throws IndexOutOfBoundsException {
        checkFeature(feature);
        return weights.averageOf(feature);
    }

    public int rollBack() throws IllegalStateException {
        if (weights.keptCount() <= 0) {
            throw new IllegalStateException("nothing can be rolled back");
        }
        weights.takeBack();
        return weights.keptCount();
    }

    // ---- what the calls share

    private Sentence find(int sentence) {
        if (sentence < 0 || sentence >= all.length) {
            throw new IndexOutOfBoundsException("there is no such sentence");
        }
        Sentence found = all[sentence];
        if (found == null) {
            throw new IndexOutOfBoundsException("there is no such sentence");
        }
        return found;
    }

    private static void checkWord(Sentence sentence, int word) {
        if (word < 1 || word > sentence.size()) {
            throw new IndexOutOfBoundsException("there is no such word");
        }
    }

    private static void checkArc(Sentence sentence, int head, int word) {
        if (head < ROOT || head > sentence.size()) {
            throw new IndexOutOfBoundsException("there is no such head");
        }
        checkWord(sentence, word);
        if (head == word) {
            throw new IllegalArgumentException("head and word are the same");
        }
    }

    private static void checkFeature(int feature) {
        if (feature < 0 || feature >= FEATURES) {
            throw new IndexOutOfBoundsException("there is no such feature");
        }
    }

    private static void checkTree(long key) {
        if (key == NO_KEY) {
            throw new IllegalStateException("there is no such tree");
        }
    }

    private Trial tryAll(Sentence sentence, boolean crossing) {
        arcs.fill(sentence, weights);
        trial.run(arcs, crossing);
        return trial;
    }

    private long bestKey(Sentence sentence, boolean crossing) {
        arcs.fill(sentence, weights);
        long key = crossing ? circles.greatest(arcs) : spans.greatest(arcs);
        checkTree(key);
        return key;
    }

    private long rankedKey(Sentence sentence, boolean crossing, int rank) {
        Trial tried = tryAll(sentence, crossing);
        if (rank < 0 || rank >= tried.size()) {
            throw new IndexOutOfBoundsException("there are not so many trees");
        }
        return tried.ofRank(rank);
    }

    /** The heads of a tree as one number: a digit a word, the first word's counting most. */
    private static long rowOfHeads(long key) {
        return Math.floorMod(-key, ROWS_OF_HEADS);
    }

    private static int scoreIn(long key) {
        return (int) ((key + rowOfHeads(key)) / ROWS_OF_HEADS);
    }

    private static int headIn(long key, int word) {
        long rest = rowOfHeads(key);
        for (int behind = MOST_WORDS; behind > word; behind--) {
            rest /= PLACES;
        }
        return (int) (rest % PLACES);
    }

    private static int byDistance(int head, int word) {
        int distance = Math.abs(head - word);
        return FIRST_BY_DISTANCE + 2 * Math.min(FAR, distance) - 2 + (head > word ? 1 : 0);
    }

    private static boolean doCross(int head, int word, int otherHead, int otherWord) {
        int left = Math.min(head, word);
        int right = Math.max(head, word);
        int otherLeft = Math.min(otherHead, otherWord);
        int otherRight = Math.max(otherHead, otherWord);
        return left < otherLeft && otherLeft < right && right < otherRight
                || otherLeft < left && left < otherRight && otherRight < right;
    }

    private static boolean isPlace(int place) {
        return place >= 0 && place < PLACES;
    }

    /** Words by their places, with the marks of the arcs and the right heads that were told. */
    private static final class Sentence {
        private final int[] kinds = new int[PLACES];
        private final int[] rightHeads = new int[PLACES];
        private final int[][] marks = new int[PLACES][PLACES];
        private int last = 0;

        Sentence() {
            kinds[ROOT] = ROOT_KIND;
            Arrays.fill(rightHeads, NONE);
        }

        int size() {
            return last;
        }

        void append(int kind) {
            if (last < MOST_WORDS) {
                last++;
                kinds[last] = kind;
            }
        }

        int kindAt(int place) {
            return isPlace(place) ? kinds[place] : NONE;
        }

        int byKinds(int head, int word) {
            return KINDS * kindAt(head) + kindAt(word);
        }

        int markOf(int head, int word) {
            return isPlace(head) && isPlace(word) ? marks[head][word] : FORBIDDEN;
        }

        int changeMark(int head, int word, int mark) {
            int old = markOf(head, word);
            if (isPlace(head) && isPlace(word)) {
                marks[head][word] = mark;
            }
            return old;
        }

        int forcedHead(int word) {
            for (int head = ROOT; head <= last; head++) {
                if (markOf(head, word) == FORCED) {
                    return head;
                }
            }
            return NONE;
        }

        boolean allows(int head, int word) {
            if (head == word || markOf(head, word) == FORBIDDEN) {
                return false;
            }
            int forced = forcedHead(word);
            return forced == NONE || forced == head;
        }

        int rightHead(int word) {
            return isPlace(word) ? rightHeads[word] : NONE;
        }

        int changeRightHead(int head, int word) {
            int old = rightHead(word);
            if (isPlace(word)) {
                rightHeads[word] = head;
            }
            return old;
        }

        boolean hasRightTree() {
            for (int word = 1; word <= last; word++) {
                int place = word;
                for (int step = 0; step < last && place > ROOT; step++) {
                    place = rightHead(place);
                }
                if (place != ROOT) {
                    return false;
                }
            }
            return true;
        }
    }

    /** The weights, their sums over the steps, and a ring of what both were ahead of each change. */
    private static final class Weights {
        private final int[] now = new int[FEATURES];
        private final long[] sums = new long[FEATURES];
        private int steps = 0;
        private final int[][] oldWeights = new int[MOST_ROLL_BACKS][FEATURES];
        private final long[][] oldSums = new long[MOST_ROLL_BACKS][FEATURES];
        private final int[] oldSteps = new int[MOST_ROLL_BACKS];
        private int kept = 0;
        private int next = 0;

        int get(int feature) {
            return isFeature(feature) ? now[feature] : 0;
        }

        void put(int feature, int weight) {
            if (isFeature(feature)) {
                now[feature] = weight;
            }
        }

        int ofArc(Sentence sentence, int head, int word) {
            return get(sentence.byKinds(head, word)) + get(byDistance(head, word));
        }

        void addToArc(Sentence sentence, int head, int word, int change) {
            int first = sentence.byKinds(head, word);
            int second = byDistance(head, word);
            put(first, get(first) + change);
            put(second, get(second) + change);
        }

        void endStep() {
            for (int feature = 0; feature < FEATURES; feature++) {
                sums[feature] += now[feature];
            }
            steps++;
        }

        int stepCount() {
            return steps;
        }

        double averageOf(int feature) {
            if (steps == 0 || !isFeature(feature)) {
                return 0.0;
            }
            return (double) sums[feature] / (double) steps;
        }

        int keptCount() {
            return kept;
        }

        void keep() {
            if (!isRow(next)) {
                return;
            }
            System.arraycopy(now, 0, oldWeights[next], 0, FEATURES);
            System.arraycopy(sums, 0, oldSums[next], 0, FEATURES);
            oldSteps[next] = steps;
            next = next + 1 < MOST_ROLL_BACKS ? next + 1 : 0;
            kept = Math.min(kept + 1, MOST_ROLL_BACKS);
        }

        void takeBack() {
            int latest = next > 0 ? next - 1 : MOST_ROLL_BACKS - 1;
            if (kept <= 0 || !isRow(latest)) {
                return;
            }
            System.arraycopy(oldWeights[latest], 0, now, 0, FEATURES);
            System.arraycopy(oldSums[latest], 0, sums, 0, FEATURES);
            steps = oldSteps[latest];
            next = latest;
            kept--;
        }

        private static boolean isFeature(int feature) {
            return feature >= 0 && feature < FEATURES;
        }

        private static boolean isRow(int row) {
            return row >= 0 && row < MOST_ROLL_BACKS;
        }
    }

    /** The keys of a sentence's arcs by head and word; NO_KEY for those that no allowed tree has. */
    private static final class ArcKeys {
        private final long[][] keys = new long[PLACES][PLACES];
        private int last = 0;

        void fill(Sentence sentence, Weights weights) {
            last = Math.min(sentence.size(), MOST_WORDS);
            for (int head = ROOT; head <= last; head++) {
                keys[head][ROOT] = NO_KEY;
                for (int word = 1; word <= last; word++) {
                    keys[head][word] = sentence.allows(head, word)
                            ? weights.ofArc(sentence, head, word) * ROWS_OF_HEADS
                                    - head * HEAD_VALUES[word]
                            : NO_KEY;
                }
            }
        }

        int size() {
            return last;
        }

        long get(int head, int word) {
            return isPlace(head) && isPlace(word) ? keys[head][word] : NO_KEY;
        }
    }

    /**
     * The best tree without crossings, by tables over spans of places. A whole span is a tree of
     * its places with its head at one end; an open one has an arc between its ends, and what lies
     * beyond its word may still be joined to it.
     */
    private static final class Spans {
        private final long[][] wholeFromLeft = new long[PLACES][PLACES];
        private final long[][] wholeFromRight = new long[PLACES][PLACES];
        private final long[][] openFromLeft = new long[PLACES][PLACES];
        private final long[][] openFromRight = new long[PLACES][PLACES];

        long greatest(ArcKeys arcs) {
            int last = Math.min(arcs.size(), MOST_WORDS);
            for (int place = ROOT; place <= last; place++) {
                wholeFromLeft[place][place] = 0;
                wholeFromRight[place][place] = 0;
            }
            for (int length = 1; length <= last; length++) {
                for (int left = ROOT; left + length <= last; left++) {
                    fillOpen(arcs, left, left + length);
                    fillWhole(left, left + length);
                }
            }
            return last >= 0 ? wholeFromLeft[ROOT][last] : NO_KEY;
        }

        private void fillOpen(ArcKeys arcs, int left, int right) {
            if (!isPlace(left) || !isPlace(right)) {
                return;
            }
            long inner = NO_KEY;
            for (int cut = left; cut < right; cut++) {
                inner = Math.max(inner, join(wholeFromLeft[left][cut], wholeFromRight[cut + 1][right]));
            }
            openFromLeft[left][right] = join(inner, arcs.get(left, right));
            openFromRight[left][right] = join(inner, arcs.get(right, left));
        }

        private void fillWhole(int left, int right) {
            if (!isPlace(left) || !isPlace(right)) {
                return;
            }
            long fromLeft = NO_KEY;
            long fromRight = NO_KEY;
            for (int cut = left; cut < right; cut++) {
                fromLeft = Math.max(fromLeft,
                        join(openFromLeft[left][cut + 1], wholeFromLeft[cut + 1][right]));
                fromRight = Math.max(fromRight,
                        join(wholeFromRight[left][cut], openFromRight[cut][right]));
            }
            wholeFromLeft[left][right] = fromLeft;
            wholeFromRight[left][right] = fromRight;
        }

        private static long join(long one, long other) {
            return one == NO_KEY || other == NO_KEY ? NO_KEY : one + other;
        }
    }

    /**
     * The best of all allowed trees, by contracting circles. Every node takes its greatest arc; as
     * long as these make a circle, it becomes one node, and each arc counts from then on as what is
     * lost by taking it in place of the arc that its word took.
     */
    private static final class Circles {
        private long[][] keys = new long[PLACES][PLACES];
        private long[][] contracted = new long[PLACES][PLACES];
        private final int[] taken = new int[PLACES];
        private final int[] groups = new int[PLACES];
        private int nodes = 0;

        long greatest(ArcKeys arcs) {
            nodes = Math.min(arcs.size() + 1, PLACES);
            for (int head = 0; head < nodes; head++) {
                for (int word = 0; word < nodes; word++) {
                    keys[head][word] = arcs.get(head, word);
                }
            }
            long total = 0;
            for (int round = 0; round < PLACES; round++) {
                long sum = takeGreatest();
                if (sum == NO_KEY) {
                    return NO_KEY;
                }
                total += sum;
                int onCircle = findCircle();
                if (onCircle == ROOT) {
                    return total;
                }
                contract(onCircle);
            }
            return NO_KEY;
        }

        private long takeGreatest() {
            long sum = 0;
            for (int word = 1; word < nodes; word++) {
                taken[word] = ROOT;
                for (int head = 1; head < nodes; head++) {
                    if (keys[head][word] > takenKey(word)) {
                        taken[word] = head;
                    }
                }
                if (takenKey(word) == NO_KEY) {
                    return NO_KEY;
                }
                sum += takenKey(word);
            }
            return sum;
        }

        private long takenKey(int word) {
            int head = takenHead(word);
            return isPlace(head) && isPlace(word) ? keys[head][word] : NO_KEY;
        }

        private int takenHead(int word) {
            return word > ROOT && word < nodes ? taken[word] : ROOT;
        }

        /** A node on a circle; the root, which is never on one, if there is no circle. */
        private int findCircle() {
            for (int start = 1; start < nodes; start++) {
                int node = start;
                for (int step = 0; step < nodes; step++) {
                    node = takenHead(node);
                }
                if (node != ROOT) {
                    return node;
                }
            }
            return ROOT;
        }

        private void contract(int onCircle) {
            int left = groupNodes(onCircle);
            for (int head = 0; head < left; head++) {
                Arrays.fill(contracted[head], NO_KEY);
            }
            for (int word = 1; word < nodes; word++) {
                long lost = takenKey(word);
                for (int head = 0; head < nodes; head++) {
                    if (keys[head][word] != NO_KEY) {
                        offer(groups[head], groups[word], keys[head][word] - lost);
                    }
                }
            }
            long[][] spare = keys;
            keys = contracted;
            contracted = spare;
            nodes = left;
        }

        /** Numbers the nodes anew, those of the circle as one, and tells how many there are then. */
        private int groupNodes(int onCircle) {
            Arrays.fill(groups, 0);
            int node = onCircle;
            for (int step = 0; step < nodes && isPlace(node); step++) {
                groups[node] = NONE;
                node = takenHead(node);
            }
            int others = 0;
            for (int place = 0; place < nodes; place++) {
                if (groups[place] != NONE) {
                    groups[place] = others;
                    others++;
                }
            }
            for (int place = 0; place < nodes; place++) {
                if (groups[place] == NONE) {
                    groups[place] = others;
                }
            }
            return Math.min(others + 1, nodes);
        }

        private void offer(int head, int word, long key) {
            if (head != word && isPlace(head) && isPlace(word) && key > contracted[head][word]) {
                contracted[head][word] = key;
            }
        }
    }

    /** The keys of all trees, found by giving each word in turn every head that it can have. */
    private static final class Trial {
        private final long[] keys = new long[MOST_TREES];
        private final int[] heads = new int[PLACES];
        private int found = 0;

        void run(ArcKeys arcs, boolean crossing) {
            found = 0;
            giveHeads(this, arcs, crossing, 1, 0);
        }

        int size() {
            return found;
        }

        long greatest() {
            long greatest = NO_KEY;
            for (int tree = 0; tree < found && tree < keys.length; tree++) {
                greatest = Math.max(greatest, keys[tree]);
            }
            return greatest;
        }

        /** Halves the range of keys until one is left: the least with at most rank keys above it. */
        long ofRank(int rank) {
            long high = greatest();
            long low = least(high);
            for (int round = 0; round < BITS_OF_KEY && low < high; round++) {
                long middle = low + (high - low) / 2;
                if (countAbove(middle) > rank) {
                    low = middle + 1;
                } else {
                    high = middle;
                }
            }
            return low;
        }

        private long least(long start) {
            long least = start;
            for (int tree = 0; tree < found && tree < keys.length; tree++) {
                least = Math.min(least, keys[tree]);
            }
            return least;
        }

        private int countAbove(long key) {
            int above = 0;
            for (int tree = 0; tree < found && tree < keys.length; tree++) {
                if (keys[tree] > key) {
                    above++;
                }
            }
            return above;
        }

        private static void giveHeads(Trial trial, ArcKeys arcs, boolean crossing, int word, long key) {
            if (word > arcs.size() || word > MOST_WORDS) {
                trial.note(key);
                return;
            }
            for (int head = ROOT; head <= arcs.size(); head++) {
                long arc = arcs.get(head, word);
                if (arc != NO_KEY && !trial.closesCircle(head, word)
                        && (crossing || !trial.crossesEarlier(head, word))) {
                    trial.heads[word] = head;
                    giveHeads(trial, arcs, crossing, word + 1, key + arc);
                }
            }
        }

        private void note(long key) {
            if (found >= 0 && found < keys.length) {
                keys[found] = key;
                found++;
            }
        }

        private boolean closesCircle(int head, int word) {
            int place = head;
            for (int step = 0; step < PLACES && place > ROOT && place < word; step++) {
                place = place < heads.length ? heads[place] : ROOT;
            }
            return place == word;
        }

        private boolean crossesEarlier(int head, int word) {
            for (int other = 1; other < word && other < heads.length; other++) {
                if (doCross(head, word, heads[other], other)) {
                    return true;
                }
            }
            return false;
        }
    }
}
