import java.util.function.Predicate;
import java.util.stream.IntStream;

/**
 * The calls, promise by promise, and how many an object takes.
 * For each sentence of the document there that names a boundary case, a test of its own, which names its sentence: the
 * last value that is taken and the first that is not, what is answered at each, and that what has to stay has stayed.
 */
public final class CallBoundaryTest extends BoundaryCases {
    public static void main(String[] args) {
        calls();
        newObject();
        put();
        take();
        type();
        make();
        sizeAndByteAt();
        lengthAndAt();
        count();
        clear();
        exact();
        refused();
        CHECKS.end();
    }

    // ---- what it is

    private static void calls() {
        CHECKS.about("An object is used for at most 512 calls after it has been made");
        ExactLoom x = new ExactLoom();
        for (int round = 0; round < 51; round++) {
            tenCalls(x, round % 10);
        }
        due("put as call 511", x.put(77, 1), true);
        due("take() as call 512", x.take(), -2);
        ExactLoom y = new ExactLoom();
        for (int round = 0; round < 50; round++) {
            tenCalls(y, round % 10);
        }
        for (int call = 501; call < 511; call++) {
            due("type as call " + call, y.type("block 7   ".charAt(call - 501), 1), true);
        }
        due("make() as call 511", y.make(), 6);
        due("byteAt(1) as call 512", y.byteAt(1), 7);
    }

    private static void tenCalls(ExactLoom x, int version) {
        due("put", x.put(0x4d000000 | version << 16, 4), true);
        due("put", x.put(0, 2), true);
        due("take()", x.take(), 8);
        due("at(6)", x.at(6), '0' + version);
        due("type", x.type(0x626c6f63, 4), true);
        due("type", x.type(0x6b2039 - version, 3), true);
        due("make()", x.make(), 6);
        due("byteAt(1)", x.byteAt(1), 9 - version);
        due("clear(0)", x.clear(0), -1);
        due("exact()", x.exact(), true);
    }

    // ---- the promises

    private static void newObject() {
        CHECKS.about("Promise 1: The block is 77 0 0 0 0 0; no bytes and nothing typed");
        Loom x = new Loom();
        blockIs("a new object", x, "block 0\n", 77, 0, 0, 0, 0, 0);
        for (int part = 0; part < 4; part++) {
            due("count(" + part + ")", x.count(part), 0);
        }
        due("clear(0)", x.clear(0), -1);
        due("take()", new Loom().take(), -1);
        due("make()", new Loom().make(), -1);
        due("take()", x.take(), -1);
        due("make()", x.make(), -1);
        blockIs("a new object, after take() and make() of nothing", x, "block 0\n", 77, 0, 0, 0, 0, 0);
        Loom other = withOldBlock();
        other.putAll(1, 2, 3);
        other.typeAll("block");
        blockIs("a new object beside another", x, "block 0\n", 77, 0, 0, 0, 0, 0);
        due("take() beside another", x.take(), -1);
        due("make() beside another", x.make(), -1);
    }

    private static final int[] WRONG_N = {0, 5, -1, -2, -3, -4, 6, 8, 256, 257, 65537, Integer.MAX_VALUE,
        Integer.MIN_VALUE, Integer.MIN_VALUE + 1, -255, -256};

    private static void put() {
        CHECKS.about("Promise 2: The n lowest bytes of word, the highest of them first");
        for (int n = 1; n <= 4; n++) {
            for (int word : new int[] {0x01020304, 0xfffefdfc, 0x80000000, 0x7fffffff, 0, -1, 0xff00ff00, 0x00ff00ff}) {
                Loom x = withOldBlock();
                int[] its = bytesOf(word, n);
                due("put of a head", x.putAll(77, 0, 0, 0, 0, 1, 9, n), true);
                due("put(" + word + ", " + n + ")", x.put(word, n), true);
                due("take()", x.take() > 0, true);
                due("put(" + word + ", " + n + "): bytes", x.bytes(), "77 0 0 0 0 1 9 " + n + " " + Loom.joined(its));
            }
        }
        CHECKS.about("Promise 2: false, refused, if n is not 1 .. 4");
        for (int n : WRONG_N) {
            Loom x = withOldBlock();
            due("put(77, " + n + ")", x.put(77, n), false);
            hasOldBlock("put(77, " + n + ")", x);
            due("take()", x.take(), -1);
            due("put of some", x.putAll(77, 4, 0), true);
            due("put(0, " + n + ")", x.put(0, n), false);
            due("put of the rest", x.putAll(0, 0, 0), true);
            due("put(-1, " + n + ")", x.put(-1, n), false);
            due("take()", x.take(), 8);
            blockIs("after refused ones", x, "block 4\n", 77, 4, 0, 0, 0, 0);
        }
        CHECKS.about("Promise 2: false, refused, if .. more than 124 would be there");
        for (int n = 1; n <= 4; n++) {
            for (int there = 118; there <= 124; there++) {
                putWith(there, n);
            }
        }
        Loom x = withOldBlock();
        for (int i = 0; i < 124; i++) {
            due("put of byte " + i, x.put(78, 1), true);
        }
        for (int n = -1; n <= 5; n++) {
            due("put of too many", x.put(78, n), false);
        }
        due("take()", x.take(), -1);
        due("put of 124 again", x.putAll(times(124, 78)), true);
        due("put of one more", x.put(78, 1), false);
        hasOldBlock("put of too many", x);
    }

    private static void putWith(int there, int n) {
        Loom x = withOldBlock();
        due("put of " + there, x.putAll(joined(row(77, 0, 1, 5), times(there - 4, 0))), true);
        boolean fits = there + n <= 124;
        due("put of " + n + " to " + there, x.put(0, n), fits);
        int left = 124 - (fits ? there + n : there);
        for (int i = 0; i < left; i++) {
            due("put of one that is left", x.put(0, 1), true);
        }
        due("put of one too many", x.put(0, 1), false);
        hasOldBlock("put of " + n + " to " + there, x);
        due("take()", x.take(), -4);
    }

    private static void take() {
        CHECKS.about("Promise 3: The bytes that wait become the block; none wait then. How long its text is");
        taken("block 7\n", 77, 7, 0, 0, 0, 0);
        taken(RICH_TEXT, RICH);
        taken(OLD_TEXT, OLD);
        Loom x = withOldBlock();
        due("put", x.putAll(RICH), true);
        hasOldBlock("bytes that wait are not the block yet", x);
        due("take()", x.take(), RICH_TEXT.length());
        due("put", x.putAll(OLD), true);
        due("take()", x.take(), OLD_TEXT.length());
        hasOldBlock("a shorter block after a longer one", x);
        CHECKS.about("Promise 3: -1 - p if they are faulty at p (the block stays)");
        notTaken(0);
        notTaken(0, 76);
        notTaken(1, 77);
        notTaken(6, 77, 0, 0, 0, 0, 0, 0);
        notTaken(120, joined(row(77, 0, 1, 2, 113), times(113, 0), row(0, 0, 0)));
        Loom y = new Loom();
        for (int round = 0; round < 20; round++) {
            due("take() of nothing", y.take(), -1);
            due("put", y.putAll(77, round, 0, 0, 0), true);
            due("take() of too few", y.take(), -6);
            due("the block stays", y.bytes(), round == 0 ? "77 0 0 0 0 0" : "77 " + (round - 1) + " 0 0 0 0");
            due("put", y.putAll(77, round, 0, 0, 0, 0), true);
            due("take()", y.take(), round < 10 ? 8 : 9);
            due("the block", y.bytes(), "77 " + round + " 0 0 0 0");
        }
    }

    private static void type() {
        CHECKS.about("Promise 4: Appends the n lowest bytes of word, the highest of them first, as characters");
        for (int n = 1; n <= 4; n++) {
            for (int upper : new int[] {0, -1, 0x80808080, 0x7f7f7f7f, 0x09090909, 0x0a0a0a0a}) {
                Loom x = withOldBlock();
                int its = n == 1 ? 0x61 : n == 2 ? 0x6162 : n == 3 ? 0x616263 : 0x61626364;
                int word = n == 4 ? its : its | upper << 8 * n;
                due("type", x.typeAll("block 1 name \""), true);
                due("type(" + word + ", " + n + ")", x.type(word, n), true);
                due("type", x.typeAll("\""), true);
                due("make()", x.make(), 8 + n);
                due("text", x.text(), "block 1\nname \"" + "abcd".substring(0, n) + "\"\n");
            }
        }
        CHECKS.about("Promise 4: false, refused, if n is not 1 .. 4");
        for (int n : WRONG_N) {
            Loom x = withOldBlock();
            due("type(32, " + n + ")", x.type(0x20202020, n), false);
            hasOldBlock("type(.., " + n + ")", x);
            due("make()", x.make(), -1);
            due("type of some", x.typeAll("block 4"), true);
            due("type(.., " + n + ")", x.type(0x31313131, n), false);
            due("type of the rest", x.typeAll("5"), true);
            due("make()", x.make(), 6);
            blockIs("after refused ones", x, "block 45\n", 77, 45, 0, 0, 0, 0);
        }
        typedCharacters();
        CHECKS.about("Promise 4: false, refused, if .. more than 200 would be there");
        for (int n = 1; n <= 4; n++) {
            for (int there = 194; there <= 200; there++) {
                typeWith(there, n);
            }
        }
        Loom x = withOldBlock();
        due("type of 200", x.typeAll(" ".repeat(192) + "block 12"), true);
        for (int n = -1; n <= 5; n++) {
            due("type of too many", x.type(0x31313131, n), false);
        }
        due("make() of 200", x.make(), 6);
        due("bytes", x.bytes(), "77 12 0 0 0 0");
        due("type of 200 again", x.typeAll(" ".repeat(200)), true);
        due("type of one more", x.type(32, 1), false);
        due("make() of 200 spaces", x.make(), -201);
        due("bytes that stay", x.bytes(), "77 12 0 0 0 0");
    }

    private static void typedCharacters() {
        CHECKS.about("Promise 4: false, refused, if .. one of them is not 10 or 32 .. 126");
        for (int c = 0; c < 256; c++) {
            boolean good = c == 10 || c >= 32 && c <= 126;
            Loom x = withOldBlock();
            due("type of some", x.typeAll("block 4"), true);
            for (int n = 1; n <= 4; n++) {
                for (int place = 0; place < n; place++) {
                    int word = 0x31313131 & ~(255 << 8 * place) | c << 8 * place;
                    if (!good) {
                        due("type(" + word + ", " + n + ")", x.type(word, n), false);
                    } else {
                        due("type(" + word + ", " + n + ")", new Loom().type(word, n), true);
                    }
                }
            }
            due("type of the rest", x.typeAll("5"), true);
            due("make()", x.make(), 6);
            due("bytes", x.bytes(), "77 45 0 0 0 0");
        }
    }

    private static void typeWith(int there, int n) {
        Loom x = withOldBlock();
        due("type of " + there, x.typeAll("block 7" + " ".repeat(there - 7)), true);
        boolean fits = there + n <= 200;
        due("type of " + n + " to " + there, x.type(fits ? 0x20202020 : 0x31313131, n), fits);
        int left = 200 - (fits ? there + n : there);
        for (int i = 0; i < left; i++) {
            due("type of one that is left", x.type(10, 1), true);
        }
        due("type of one too many", x.type('1', 1), false);
        hasOldBlock("type of " + n + " to " + there, x);
        due("make()", x.make(), 6);
        due("bytes", x.bytes(), "77 7 0 0 0 0");
    }

    private static void make() {
        CHECKS.about("Promise 5: Makes a block of what is typed; nothing is typed then. How many bytes it has");
        made("block 7", 77, 7, 0, 0, 0, 0);
        made(OLD_TEXT, OLD);
        Loom x = withOldBlock();
        due("type", x.typeAll("block 7"), true);
        hasOldBlock("what is typed is not the block yet", x);
        due("make()", x.make(), 6);
        due("type", x.typeAll(OLD_TEXT), true);
        due("make()", x.make(), OLD.length);
        hasOldBlock("a longer block after a shorter one", x);
        CHECKS.about("Promise 5: -1 - p if the text is faulty at p (the block stays)");
        notMade("~");
        notMade("~blocks");
        notMade("block 1 ~?");
        notMade("block 1 code 1 1 { jump @0 ~} ");
        String[] unfinished = {" code 1 1 { @0 jump @0 jump @1", " code 1 1 { raw x00", " int 1 field 1",
            " code 1 1 { @0 @1 nop } code 1 1 { @0 nop pick 3 @0 @0"};
        Loom y = new Loom();
        for (int round = 0; round < 20; round++) {
            String wrong = unfinished[round % 4];
            String right = " code 1 1 { @0 jump @0 }";
            due("make() of nothing", y.make(), -1);
            due("type", y.typeAll("block " + round + wrong), true);
            due("make() of too little", y.make(), -1 - ("block " + round + wrong).length());
            due("the block stays", y.size(), round == 0 ? 6 : 12);
            due("type", y.typeAll("block " + round + right), true);
            due("make()", y.make(), 12);
            due("the block", y.bytes(), "77 " + round + " 0 0 1 1 1 3 6 0 0 0");
        }
    }

    private static final int[] FAR = {-1, -2, -3, -120, -255, -256, 121, 124, 255, 256, 257, 65536, 65537, 1 << 24,
        0x7ffffffe, Integer.MAX_VALUE, Integer.MIN_VALUE, Integer.MIN_VALUE + 1};

    private static void sizeAndByteAt() {
        CHECKS.about("Promise 6: How many bytes the block has. Promise 7: Byte i of the block (0 .. 255); "
            + "-1 if there is none");
        int[] longest = joined(row(77, 255, 0, 0, 0, 1, 255, 112), IntStream.range(144, 256).toArray());
        for (int[] row : new int[][] {{77, 0, 0, 0, 0, 0}, OLD, RICH, longest, {77, 0, 0, 0, 0, 0}}) {
            Loom x = withOldBlock();
            due("put", x.putAll(longest), true);
            due("take()", x.take() > 0, true);
            due("put", x.putAll(row), true);
            due("take()", x.take() > 0, true);
            due("size()", x.size(), row.length);
            for (int i = 0; i < row.length; i++) {
                due("byteAt(" + i + ")", x.byteAt(i), row[i]);
            }
            due("byteAt(" + row.length + ")", x.byteAt(row.length), -1);
            due("byteAt(" + (row.length + 1) + ")", x.byteAt(row.length + 1), -1);
            due("byteAt(119)", x.byteAt(119), row.length == 120 ? 255 : -1);
            due("byteAt(120)", x.byteAt(120), -1);
            for (int i : FAR) {
                due("byteAt(" + i + ")", x.byteAt(i), -1);
            }
        }
    }

    private static void lengthAndAt() {
        CHECKS.about("Promise 8: How long the text of the block is. Promise 9: Character i of the text of the block; "
            + "-1 if there is none");
        int[] longest = joined(row(77, 255, 0, 57), times(57, 255, 255), row(0, 0));
        String longestText = "block 255\n" + "field 255 255\n".repeat(57);
        int[][] rows = {{77, 0, 0, 0, 0, 0}, OLD, RICH, longest};
        String[] texts = {"block 0\n", OLD_TEXT, RICH_TEXT, longestText};
        for (int k = 0; k < rows.length; k++) {
            Loom x = withOldBlock();
            due("put", x.putAll(longest), true);
            due("take()", x.take(), 808);
            due("put", x.putAll(rows[k]), true);
            due("take()", x.take(), texts[k].length());
            due("length()", x.length(), texts[k].length());
            for (int i = 0; i < texts[k].length(); i++) {
                due("at(" + i + ")", x.at(i), (int) texts[k].charAt(i));
            }
            for (int i = texts[k].length(); i < 812; i++) {
                due("at(" + i + ")", x.at(i), -1);
            }
            for (int i : FAR) {
                due("at(" + i + ")", x.at(i), i >= 0 && i < texts[k].length() ? texts[k].charAt(i) : -1);
            }
        }
    }

    private static void count() {
        CHECKS.about("Promise 10: How many entries (0), fields (1), codes (2), attachments (3) the block has; "
            + "-1 for another part");
        int[][] rows = {{77, 9, 0, 0, 0, 0}, OLD, RICH, joined(row(77, 0, 57), times(57, 2, 0), row(0, 0, 0)),
            joined(row(77, 0, 0, 57), times(57, 1, 1), row(0, 0)), joined(row(77, 0, 0, 0, 38), times(38, 1, 1, 0),
                row(0)),
            joined(row(77, 0, 0, 0, 0, 57), times(57, 1, 0))};
        int[][] counts = {{0, 0, 0, 0}, {1, 1, 2, 1}, {4, 2, 2, 2}, {57, 0, 0, 0}, {0, 57, 0, 0}, {0, 0, 38, 0}, {0, 0,
            0, 57}};
        for (int k = 0; k < rows.length; k++) {
            Loom x = withOldBlock();
            due("put", x.putAll(rows[k]), true);
            due("take()", x.take() > 0, true);
            for (int part = 0; part < 4; part++) {
                due("count(" + part + ")", x.count(part), counts[k][part]);
            }
            for (int part : new int[] {4, 5, 6, 7}) {
                due("count(" + part + ")", x.count(part), -1);
            }
            for (int part : FAR) {
                due("count(" + part + ")", x.count(part), -1);
            }
        }
    }

    private static void clear() {
        CHECKS.about("Promise 11: Whether code k (from 0) of the block is clear: 1, or 0; -1 if there is none");
        Loom x = withOldBlock();
        due("put", x.putAll(joined(row(77, 0, 0, 0, 28), times(14, 1, 1, 1, 9, 1, 1, 1, 11), row(0))), true);
        due("take()", x.take() > 0, true);
        for (int k = 0; k < 28; k++) {
            due("clear(" + k + ")", x.clear(k), 1 - k % 2);
        }
        for (int k = 28; k < 45; k++) {
            due("clear(" + k + ")", x.clear(k), -1);
        }
        due("put", x.putAll(77, 0, 0, 1, 0, 0, 1, 1, 1, 1, 6, 0), true);
        due("take()", x.take() > 0, true);
        due("clear(0)", x.clear(0), 0);
        due("clear(1)", x.clear(1), -1);
        due("clear(2)", x.clear(2), -1);
        for (int k : FAR) {
            due("clear(" + k + ")", x.clear(k), -1);
        }
        due("put", x.putAll(joined(row(77, 0, 0, 0, 38), times(38, 1, 1, 0), row(0))), true);
        due("take()", x.take() > 0, true);
        due("clear(37)", x.clear(37), 1);
        due("clear(38)", x.clear(38), -1);
        due("put", x.putAll(77, 0, 0, 0, 0, 0), true);
        due("take()", x.take(), 8);
        due("clear(0)", x.clear(0), -1);
    }

    private static void exact() {
        CHECKS.about("Promise 12: Whether the block that is made of the text of the block is the block");
        Loom x = withOldBlock();
        due("type", x.typeAll("block 5"), true);
        due("put", x.putAll(77, 6, 0), true);
        for (int i = 0; i < 3; i++) {
            due("exact()", x.exact(), true);
            hasOldBlock("exact()", x);
        }
        due("put", x.putAll(0, 0, 0), true);
        due("exact()", x.exact(), true);
        due("take()", x.take(), 8);
        due("exact()", x.exact(), true);
        due("make()", x.make(), 6);
        due("bytes", x.bytes(), "77 5 0 0 0 0");
        due("exact()", x.exact(), true);
        due("take()", x.take(), -1);
        due("exact()", x.exact(), true);
        Loom y = withOldBlock();
        due("type", y.typeAll("block 5 ?"), true);
        due("exact()", y.exact(), true);
        due("make()", y.make(), -9);
        due("exact()", y.exact(), true);
        hasOldBlock("exact()", y);
    }

    private static void refused() {
        CHECKS.about("A call that is refused changes nothing");
        for (int n : WRONG_N) {
            refusedAmongOthers(x -> x.put(0x4d4d4d4d, n) || x.type(0x62626262, n));
        }
        for (int c : new int[] {0, 9, 11, 13, 31, 127, 128, 255}) {
            refusedAmongOthers(x -> x.type(c, 1) || x.type(c << 8 | 32, 2) || x.type(c << 24 | 0x202020, 4));
        }
        for (int i : FAR) {
            refusedAmongOthers(x -> x.byteAt(i) != -1 || x.at(i) != -1 || x.count(i) != -1 || x.clear(i) != -1);
        }
        Loom x = withOldBlock();
        due("put of 124", x.putAll(joined(row(77, 0, 0, 0, 0, 0), times(118, 1))), true);
        due("type of 200", x.typeAll("block 44" + " ".repeat(192)), true);
        for (int n = 1; n <= 4; n++) {
            due("put of too many", x.put(0x4d4d4d4d, n), false);
            due("type of too many", x.type(0x31313131, n), false);
            hasOldBlock("too many", x);
        }
        due("take() of 124", x.take(), -7);
        due("make() of 200", x.make(), 6);
        blockIs("make() of 200", x, "block 44\n", 77, 44, 0, 0, 0, 0);
    }

    /** Tries a call while some bytes wait and something is typed; the call answers whether anything was taken. */
    private static void refusedAmongOthers(Predicate<Loom> call) {
        Loom x = withOldBlock();
        due("put of some", x.putAll(77, 43, 0), true);
        due("type of some", x.typeAll("block 4"), true);
        due("whether it was taken", call.test(x), false);
        hasOldBlock("refused", x);
        due("put of the rest", x.putAll(0, 0, 0), true);
        due("type of the rest", x.typeAll("4"), true);
        due("take()", x.take(), 9);
        blockIs("take()", x, "block 43\n", 77, 43, 0, 0, 0, 0);
        due("make()", x.make(), 6);
        blockIs("make()", x, "block 44\n", 77, 44, 0, 0, 0, 0);
    }
}
