import java.util.ArrayList;
import java.util.List;

/**
 * A reader that keeps to the 512 calls for which an object is used: when they are used up, a new
 * object takes the place of the old one and gets all calls again that may have changed something.
 */
final class Reader {
    static final int MOST_CALLS = 512;

    private enum Kind { CHOOSE, WRITE, CLEAR, TRANSLATE }

    private record Change(Kind kind, int argument, int answer) {
    }

    private final List<Change> changes = new ArrayList<>();
    private PhaseReader object = new PhaseReader();
    private int calls;

    /** Another object that has had the same calls. */
    Reader twin() {
        Reader twin = new Reader();
        twin.changes.addAll(changes);
        twin.startAgain();
        return twin;
    }

    boolean choose(int file) {
        return change(Kind.CHOOSE, file) == 1;
    }

    boolean write(char c) {
        return change(Kind.WRITE, c) == 1;
    }

    void clear() {
        change(Kind.CLEAR, 0);
    }

    int translate(int file) {
        return change(Kind.TRANSLATE, file);
    }

    int length(int file) {
        return nextObject().length(file);
    }

    int verdict() {
        return nextObject().verdict();
    }

    int tokens() {
        return nextObject().tokens();
    }

    int place(int k) {
        return nextObject().place(k);
    }

    int spelling(int k, int i) {
        return nextObject().spelling(k, i);
    }

    int replaced() {
        return nextObject().replaced();
    }

    int macros() {
        return nextObject().macros();
    }

    int nodes() {
        return nextObject().nodes();
    }

    int node(int k, int what) {
        return nextObject().node(k, what);
    }

    private int change(Kind kind, int argument) {
        int answer = perform(nextObject(), kind, argument);
        changes.add(new Change(kind, argument, answer));
        return answer;
    }

    /** The object for the next call, which is counted. */
    private PhaseReader nextObject() {
        if (calls == MOST_CALLS) {
            startAgain();
        }
        calls++;
        return object;
    }

    private void startAgain() {
        if (changes.size() >= MOST_CALLS) {
            throw new IllegalStateException("the test needs an object with more than 512 calls");
        }
        object = new PhaseReader();
        for (Change change : changes) {
            int answer = perform(object, change.kind(), change.argument());
            Check.due("the same call on a new object", answer, change.answer());
        }
        calls = changes.size();
    }

    private static int perform(PhaseReader object, Kind kind, int argument) {
        switch (kind) {
            case CHOOSE:
                return object.choose(argument) ? 1 : 0;
            case WRITE:
                return object.write((char) argument) ? 1 : 0;
            case TRANSLATE:
                return object.translate(argument);
            default:
                object.clear();
                return 0;
        }
    }
}
