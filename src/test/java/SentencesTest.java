import java.io.IOException;

/** The document sentence by sentence: each one that names a boundary has a test of its own. */
public final class SentencesTest {
    private SentencesTest() {
    }

    public static void main(String[] args) throws IOException {
        TimeSentences.test();
        RunningSentences.test();
        PassingSentences.test();
        TrainSentences.test();
        TankSentences.test();
        HalfHourSentences.test();
        ScheduleSentences.test();
        MeterSentences.test();
        Sentences.compare();
        Check.end();
    }
}
