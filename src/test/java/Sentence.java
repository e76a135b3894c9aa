import java.util.function.Consumer;
import java.util.function.ToIntFunction;

/** What one sentence of the document says at its bounds: a wrong answer is told with the sentence. */
final class Sentence {
    private final Due due;
    private final int promise;
    private final String words;

    Sentence(Due due, int promise, String words) {
        this.due = due;
        this.promise = promise;
        this.words = words;
    }

    void is(String call, int got, int want) {
        due.due(promise, "'" + words + "': " + call, got, want);
    }

    /** Of two houses made alike one is asked: the answer is due, and all that both answer behind it is alike. */
    void changesNothing(String call, Consumer<GriefDoors> made, ToIntFunction<GriefDoors> asked, int want) {
        GriefDoors one = new GriefDoors();
        made.accept(one);
        is(call, asked.applyAsInt(one), want);
        GriefDoors twin = new GriefDoors();
        made.accept(twin);
        due.due(promise, "'" + words + "': all behind " + call, AllAnswers.of(one), AllAnswers.of(twin));
    }
}
