import java.lang.management.ManagementFactory;

/** A run of 512 of the dearest calls stays far below the room of all calls, some 58 million bytes. */
public final class RoomTest {
    private static final com.sun.management.ThreadMXBean THREADS =
            (com.sun.management.ThreadMXBean) ManagementFactory.getThreadMXBean();

    public static void main(String[] args) {
        run();
        long before = THREADS.getCurrentThreadAllocatedBytes();
        run();
        long taken = THREADS.getCurrentThreadAllocatedBytes() - before;
        Check.due("a run takes under a million bytes (" + taken + ")", taken < 1_000_000, true);
        Check.end("RoomTest");
    }

    private static void run() {
        ArcLight light = new ArcLight();
        for (int sentence = 0; sentence < 5; sentence++) {
            light.addSentence();
            for (int word = 1; word <= 6; word++) {
                light.addWord(sentence, word % 4);
                light.correct(sentence, word - 1, word);
            }
        }
        for (int round = 0; round < 40; round++) {
            int sentence = round % 5;
            light.trees(sentence, true);
            light.best(sentence, true);
            light.best(sentence, false);
            light.bestByTrying(sentence, true);
            light.ranked(sentence, true, round);
            light.rankedHead(sentence, true, 16806 - round, 1);
            light.head(sentence, true, 6);
            light.crossings(sentence);
            light.matched(sentence);
            light.mend(sentence);
            light.setWeight(round % 28, round);
        }
    }
}
