import java.util.ArrayList;
import java.util.List;

/**
 * An object under test, with what tests often do with one. The document promises an object's first 512 calls alone:
 * when they are used up, a new object is brought to the same state by the same changes and takes the old one's place.
 */
final class Loom {
    static final int CALLS_MOST = 512;
    // Far above the longest text, so that a text without an end is seen as one.
    private static final int READ_MOST = 2000;

    private enum Call { PUT, TAKE, TYPE, MAKE }

    private record Change(Call call, int word, int n, int answer) { }

    private final List<Change> changes = new ArrayList<>();
    private ExactLoom object = new ExactLoom();
    private int callsLeft = CALLS_MOST;

    boolean put(int word, int n) {
        return change(Call.PUT, word, n) == 1;
    }

    int take() {
        return change(Call.TAKE, 0, 0);
    }

    boolean type(int word, int n) {
        return change(Call.TYPE, word, n) == 1;
    }

    int make() {
        return change(Call.MAKE, 0, 0);
    }

    int size() {
        return next().size();
    }

    int byteAt(int i) {
        return next().byteAt(i);
    }

    int length() {
        return next().length();
    }

    int at(int i) {
        return next().at(i);
    }

    int count(int part) {
        return next().count(part);
    }

    int clear(int k) {
        return next().clear(k);
    }

    boolean exact() {
        return next().exact();
    }

    private int change(Call call, int word, int n) {
        int answer = perform(next(), call, word, n);
        changes.add(new Change(call, word, n, answer));
        return answer;
    }

    private static int perform(ExactLoom x, Call call, int word, int n) {
        switch (call) {
            case PUT: return x.put(word, n) ? 1 : 0;
            case TAKE: return x.take();
            case TYPE: return x.type(word, n) ? 1 : 0;
            default: return x.make();
        }
    }

    /** The object for one more call. */
    private ExactLoom next() {
        if (callsLeft == 0) {
            object = new ExactLoom();
            callsLeft = CALLS_MOST;
            for (Change change : changes) {
                callsLeft--;
                if (perform(object, change.call, change.word, change.n) != change.answer) {
                    throw new IllegalStateException("the same calls gave another answer: " + change);
                }
            }
            if (callsLeft <= 0) {
                throw new IllegalStateException("the test changes one object too often");
            }
        }
        callsLeft--;
        return object;
    }

    // ---- what is made of these calls

    /** Puts all these bytes; whether every call took its own. */
    boolean putAll(int... bytes) {
        boolean good = true;
        for (int i = 0; i < bytes.length; i += 4) {
            int n = Math.min(4, bytes.length - i);
            int word = 0;
            for (int k = 0; k < n; k++) {
                word = word << 8 | bytes[i + k];
            }
            good &= put(word, n);
        }
        return good;
    }

    /** Types the whole text; whether every call took its own. */
    boolean typeAll(String text) {
        boolean good = true;
        for (int i = 0; i < text.length(); i += 4) {
            int n = Math.min(4, text.length() - i);
            int word = 0;
            for (int k = 0; k < n; k++) {
                word = word << 8 | text.charAt(i + k);
            }
            good &= type(word, n);
        }
        return good;
    }

    String text() {
        StringBuilder text = new StringBuilder();
        int c = at(0);
        for (int i = 1; c != -1 && i < READ_MOST; i++) {
            text.append((char) c);
            c = at(i);
        }
        return text.toString();
    }

    String bytes() {
        StringBuilder bytes = new StringBuilder();
        int b = byteAt(0);
        for (int i = 1; b != -1 && i < READ_MOST; i++) {
            bytes.append(i == 1 ? "" : " ").append(b);
            b = byteAt(i);
        }
        return bytes.toString();
    }

    /** Bytes, written as bytes() answers them. */
    static String joined(int... bytes) {
        StringBuilder all = new StringBuilder();
        for (int i = 0; i < bytes.length; i++) {
            all.append(i == 0 ? "" : " ").append(bytes[i]);
        }
        return all.toString();
    }
}
