import java.util.Arrays;
import java.util.stream.IntStream;

/**
 * What the boundary tests are made of: rows and texts that are tried on an object that has a block already, so that it
 * is seen what has become the block, or that what has to stay has stayed.
 */
abstract class BoundaryCases {
    static final Checks CHECKS = new Checks();

    // A block with something in each part, a code that is clear and one that is not.
    static final int[] OLD = {77, 3, 1, 3, 1, 2, 1, 4, 5, 2, 6, 7, 1, 9, 8, 9, 1, 255, 1, 10, 1, 171};
    static final String OLD_TEXT =
        "block 3\npair 1 2\nfield 4 5\ncode 6 7 {\nret\n}\ncode 8 9 {\nraw xff\n}\nattach 10 xab\n";

    // A block with every kind of entry, two items in each other part, and every instruction.
    static final int[] RICH = {77, 255,
        4, 1, 255, 255, 255, 254, 2, 2, 97, 98, 3, 0, 255, 4, 0, 0, 0, 0, 0, 0, 1, 0,
        2, 1, 2, 3, 4,
        2, 5, 6, 23, 0, 1, 128, 2, 255, 3, 4, 5, 6, 255, 248, 7, 0, 1, 8, 200, 9, 10, 2, 255, 254, 127, 255,
        7, 8, 2, 1, 11,
        2, 9, 0, 10, 3, 0, 16, 255};
    static final String RICH_TEXT = "block 255\nint -2\nname \"ab\"\npair 0 255\nlong 256\nfield 1 2\nfield 3 4\n"
        + "code 5 6 {\n@0\nnop\npush -128\nload 255\nadd\nsub\ndup\njump @0\nzero +1\ncall 200\nret\n"
        + "pick 2 -2 +32767\n}\ncode 7 8 {\npush 11\n}\nattach 9 x\nattach 10 x0010ff\n";

    static void due(String what, Object got, Object want) {
        CHECKS.due(what, got, want);
    }

    static int[] joined(int[]... rows) {
        return Arrays.stream(rows).flatMapToInt(Arrays::stream).toArray();
    }

    static int[] times(int n, int... row) {
        return IntStream.range(0, n).flatMap(i -> Arrays.stream(row)).toArray();
    }

    static int[] row(int... bytes) {
        return bytes;
    }

    /** A block with this one code alone. */
    static int[] withCode(int... code) {
        return joined(row(77, 0, 0, 0, 1, 0, 0, code.length), code, row(0));
    }

    static Loom withOldBlock() {
        Loom x = new Loom();
        due("put of the old block", x.putAll(OLD), true);
        due("take of the old block", x.take(), OLD_TEXT.length());
        return x;
    }

    static void hasOldBlock(String what, Loom x) {
        blockIs(what, x, OLD_TEXT, OLD);
        due(what + ": count(0)", x.count(0), 1);
        due(what + ": count(1)", x.count(1), 1);
        due(what + ": count(2)", x.count(2), 2);
        due(what + ": count(3)", x.count(3), 1);
        due(what + ": clear(0)", x.clear(0), 1);
        due(what + ": clear(1)", x.clear(1), 0);
        due(what + ": clear(2)", x.clear(2), -1);
    }

    static void blockIs(String what, Loom x, String text, int... row) {
        due(what + ": size()", x.size(), row.length);
        due(what + ": bytes", x.bytes(), Loom.joined(row));
        due(what + ": length()", x.length(), text.length());
        due(what + ": text", x.text(), text);
        due(what + ": exact()", x.exact(), true);
    }

    /** The row becomes the block, with this text; no byte waits then, and what is typed stays. */
    static void taken(String text, int... row) {
        String what = "take() of " + Loom.joined(row);
        Loom x = withOldBlock();
        due("type", x.typeAll("block 44"), true);
        due("put of " + Loom.joined(row), x.putAll(row), true);
        due(what, x.take(), text.length());
        blockIs(what, x, text, row);
        due(what + ", and again", x.take(), -1);
        blockIs(what + ", and again", x, text, row);
        due(what + ", then make()", x.make(), 6);
        blockIs(what + ", then make()", x, "block 44\n", 77, 44, 0, 0, 0, 0);
    }

    /** The row is faulty at this place; the block stays, no byte waits then, and what is typed stays. */
    static void notTaken(int at, int... row) {
        String what = "take() of " + Loom.joined(row);
        Loom x = withOldBlock();
        due("type", x.typeAll("block 44"), true);
        due("put of " + Loom.joined(row), x.putAll(row), true);
        due(what, x.take(), -1 - at);
        hasOldBlock(what, x);
        due(what + ", and again", x.take(), -1);
        due(what + ", then put", x.putAll(77, 43, 0, 0, 0, 0), true);
        due(what + ", then put and take()", x.take(), 9);
        blockIs(what + ", then put and take()", x, "block 43\n", 77, 43, 0, 0, 0, 0);
        due(what + ", then make()", x.make(), 6);
        blockIs(what + ", then make()", x, "block 44\n", 77, 44, 0, 0, 0, 0);
    }

    /** The row becomes the block of this text; nothing is typed then, and the bytes that wait stay. */
    static void made(String text, int... row) {
        String what = "make() of " + text;
        Loom x = withOldBlock();
        due("put", x.putAll(77, 44, 0, 0, 0, 0), true);
        due("type of " + text, x.typeAll(text), true);
        due(what, x.make(), row.length);
        due(what + ": size()", x.size(), row.length);
        due(what + ": bytes", x.bytes(), Loom.joined(row));
        due(what + ": exact()", x.exact(), true);
        due(what + ", and again", x.make(), -1);
        due(what + ", and again: bytes", x.bytes(), Loom.joined(row));
        due(what + ", then take()", x.take(), 9);
        blockIs(what + ", then take()", x, "block 44\n", 77, 44, 0, 0, 0, 0);
    }

    /** The text is faulty where the first mark ~ stands, which is not in it. */
    static void notMade(String marked) {
        int at = marked.indexOf('~');
        notMade(at, marked.substring(0, at) + marked.substring(at + 1));
    }

    /** The text is faulty at this place; the block stays, nothing is typed then, and the bytes that wait stay. */
    static void notMade(int at, String text) {
        String what = "make() of " + text;
        Loom x = withOldBlock();
        due("put", x.putAll(77, 44, 0, 0, 0, 0), true);
        due("type of " + text, x.typeAll(text), true);
        due(what, x.make(), -1 - at);
        hasOldBlock(what, x);
        due(what + ", and again", x.make(), -1);
        due(what + ", then type", x.typeAll("block 43"), true);
        due(what + ", then type and make()", x.make(), 6);
        blockIs(what + ", then type and make()", x, "block 43\n", 77, 43, 0, 0, 0, 0);
        due(what + ", then take()", x.take(), 9);
        blockIs(what + ", then take()", x, "block 44\n", 77, 44, 0, 0, 0, 0);
    }

    static int[] bytesOf(long value, int width) {
        return IntStream.range(0, width).map(i -> (int) (value >> 8 * (width - 1 - i)) & 255).toArray();
    }
}
