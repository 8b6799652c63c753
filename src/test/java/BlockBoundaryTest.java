import java.util.Arrays;

/**
 * Blocks, their codes and their texts.
 * For each sentence of the document there that names a boundary case, a test of its own, which names its sentence: the
 * last value that is taken and the first that is not, what is answered at each, and that what has to stay has stayed.
 */
public final class BlockBoundaryTest extends BoundaryCases {
    public static void main(String[] args) {
        blockLength();
        firstByte();
        parts();
        kinds();
        intsAndLongs();
        lengthsOfNames();
        tooFew();
        tooMany();
        instructions();
        signedOperands();
        clearCodes();
        targets();
        lineNumbers();
        plainNames();
        numbersInTexts();
        layout();
        CHECKS.end();
    }

    // ---- terms: a block

    /** A row of this length, which a name fills, with these items in a part behind it. */
    private static int[] ofLength(int length, int part, int many, int... items) {
        int n = length - 8 - items.length;
        int[][] counts = {{1}, {0}, {0}, {0}};
        counts[part][0] += many;
        int[] row = joined(row(77, 0), counts[0], row(2, n), times(n, 97));
        for (int i = 0; i < 4; i++) {
            row = joined(row, i == 0 ? row() : counts[i], i == part ? items : row());
        }
        return row;
    }

    private static void blockLength() {
        CHECKS.about("A BLOCK is a row of at most 120 bytes");
        behindAName("", 0, 0);
        behindAName("int 0\n", 0, 1, 1, 0, 0, 0, 0);
        behindAName("name x\n", 0, 1, 2, 0);
        behindAName("name \"b\"\n", 0, 1, 2, 1, 98);
        behindAName("pair 0 0\n", 0, 1, 3, 0, 0);
        behindAName("long 0\n", 0, 1, 4, 0, 0, 0, 0, 0, 0, 0, 0);
        behindAName("field 0 0\n", 1, 1, 0, 0);
        behindAName("field 1 2\nfield 3 4\nfield 5 6\n", 1, 3, 1, 2, 3, 4, 5, 6);
        behindAName("code 0 0 {\n}\n", 2, 1, 0, 0, 0);
        behindAName("code 0 0 {\nret\n}\n", 2, 1, 0, 0, 1, 9);
        behindAName("code 0 0 {\nraw x0607\n}\n", 2, 1, 0, 0, 2, 6, 7);
        behindAName("attach 0 x\n", 3, 1, 0, 0);
        behindAName("attach 0 x010203\n", 3, 1, 0, 3, 1, 2, 3);
        notTaken(120, joined(ofLength(122, 0, 0), row(0, 0)));
        notTaken(120, joined(row(77, 0, 2, 2, 115), times(115, 97), row(5, 0, 0, 0)));
        notTaken(119, joined(row(77, 0, 2, 2, 114), times(114, 97), row(5, 0, 0, 0, 0)));
    }

    private static void behindAName(String lines, int part, int many, int... items) {
        for (int length = 118; length <= 124; length++) {
            int[] row = ofLength(length, part, many, items);
            due("length of the row", row.length, length);
            if (length <= 120) {
                taken("block 0\nname \"" + "a".repeat(length - 8 - items.length) + "\"\n" + lines, row);
            } else {
                notTaken(120, row);
            }
        }
    }

    private static void firstByte() {
        CHECKS.about("A BLOCK is .. 77, a VERSION byte; FAULTY at .. (the first one ..)");
        for (int b = 0; b < 256; b++) {
            taken("block " + b + "\n", 77, b, 0, 0, 0, 0);
            if (b != 77) {
                notTaken(0, b);
                notTaken(0, b, 0, 0, 0, 0, 0);
                notTaken(0, b, 0, 0, 0, 0, 0, 0);
            }
        }
        notTaken(0, 0, 77, 0, 0, 0, 0, 0);
        notTaken(0, times(124, 78));
    }

    private static void parts() {
        CHECKS.about("four parts, each a byte that tells how many there are, and these");
        taken("block 0\n" + "name x\n".repeat(57), joined(row(77, 0, 57), times(57, 2, 0), row(0, 0, 0)));
        taken("block 0\n" + "field 9 10\n".repeat(57), joined(row(77, 0, 0, 57), times(57, 9, 10), row(0, 0)));
        taken("block 0\n" + "code 9 10 {\n}\n".repeat(38), joined(row(77, 0, 0, 0, 38), times(38, 9, 10, 0), row(0)));
        taken("block 0\n" + "attach 99 x\n".repeat(57), joined(row(77, 0, 0, 0, 0, 57), times(57, 99, 0)));
        taken("block 255\n" + "field 255 255\n".repeat(57),
            joined(row(77, 255, 0, 57), times(57, 255, 255), row(0, 0)));
        notTaken(120, joined(row(77, 0, 58), times(58, 2, 0), row(0)));
        notTaken(120, joined(row(77, 0, 0, 58), times(58, 9, 10)));
        notTaken(120, joined(row(77, 0, 0, 0, 39), times(38, 9, 10, 0), row(0)));
        notTaken(120, joined(row(77, 0, 0, 0, 0, 58), times(57, 99, 0)));
        for (int part = 0; part < 4; part++) {
            notTaken(3 + part, joined(row(77, 0), times(part, 0), row(1)));
            notTaken(3 + part, joined(row(77, 0), times(part, 0), row(255)));
        }
        taken("block 1\npair 2 3\n", 77, 1, 1, 3, 2, 3, 0, 0, 0);
        taken("block 1\nfield 2 3\n", 77, 1, 0, 1, 2, 3, 0, 0);
        taken("block 1\ncode 2 3 {\n}\n", 77, 1, 0, 0, 1, 2, 3, 0, 0);
        taken("block 1\nattach 2 x\n", 77, 1, 0, 0, 0, 1, 2, 0);
        taken(RICH_TEXT, RICH);
    }

    private static void kinds() {
        CHECKS.about("FAULTY at the first byte that cannot be as it is (.. a kind that is none)");
        String[] lines = {"", "int 0\n", "name x\n", "pair 0 0\n", "long 0\n"};
        int[] widths = {0, 4, 1, 2, 8};
        for (int kind = 0; kind < 256; kind++) {
            if (kind >= 1 && kind <= 4) {
                int[] entry = joined(row(kind), times(widths[kind], 0));
                taken("block 0\n" + lines[kind], joined(row(77, 0, 1), entry, row(0, 0, 0)));
                taken("block 0\n" + lines[kind] + lines[kind], joined(row(77, 0, 2), entry, entry, row(0, 0, 0)));
                notTaken(4, 77, 0, 1, kind);
                notTaken(6, 77, 0, 2, 2, 0, kind);
            } else {
                notTaken(3, 77, 0, 1, kind, 0, 0, 0, 0, 0, 0, 0, 0, 0, 0, 0);
                notTaken(3, 77, 0, 1, kind);
                notTaken(5, 77, 0, 2, 2, 0, kind);
                notTaken(5, 77, 0, 2, 2, 0, kind, 0, 0, 0, 0, 0, 0, 0, 0, 0, 0, 0);
            }
        }
        notTaken(3, 77, 0, 2, 0, 5);
        notTaken(3, joined(row(77, 0, 1, 0), times(120, 0)));
    }

    private static void intsAndLongs() {
        CHECKS.about("ints and longs, which are signed, the highest byte first");
        taken("block 0\nint 16909060\nint 2147483647\nint -2147483648\nint -1\nint -256\nint 255\n",
            77, 0, 6, 1, 1, 2, 3, 4, 1, 127, 255, 255, 255, 1, 128, 0, 0, 0, 1, 255, 255, 255, 255, 1, 255, 255, 255, 0,
            1, 0, 0, 0, 255, 0, 0, 0);
        taken("block 0\nlong 72623859790382856\nlong 9223372036854775807\nlong -9223372036854775808\nlong -1\n"
            + "long -256\nlong 4294967295\nlong -4294967296\n",
            77, 0, 7, 4, 1, 2, 3, 4, 5, 6, 7, 8, 4, 127, 255, 255, 255, 255, 255, 255, 255, 4, 128, 0, 0, 0, 0, 0, 0, 0,
            4, 255, 255, 255, 255, 255, 255, 255, 255, 4, 255, 255, 255, 255, 255, 255, 255, 0,
            4, 0, 0, 0, 0, 255, 255, 255, 255, 4, 255, 255, 255, 255, 0, 0, 0, 0, 0, 0, 0);
    }

    private static void lengthsOfNames() {
        CHECKS.about("a byte n and n bytes");
        for (int n : new int[] {0, 1, 2, 9, 10, 99, 110, 111, 112}) {
            int[] its = times(n, 250);
            String bytes = "x" + "fa".repeat(n) + "\n";
            taken("block 0\nname " + bytes, joined(row(77, 0, 1, 2, n), its, row(0, 0, 0)));
            taken("block 0\nattach 7 " + bytes, joined(row(77, 0, 0, 0, 0, 1, 7, n), its));
            notTaken(8 + n, joined(row(77, 0, 1, 2, n), its, row(0, 0, 0, 0)));
            notTaken(8 + n, joined(row(77, 0, 0, 0, 0, 1, 7, n), its, row(0)));
            if (n > 0) {
                notTaken(4 + n, joined(row(77, 0, 1, 2, n), times(n - 1, 250)));
                notTaken(7 + n, joined(row(77, 0, 0, 0, 0, 1, 7, n), times(n - 1, 250)));
            }
            if (n <= 111) {
                taken("block 0\ncode 7 8 {\n" + (n > 0 ? "raw " + bytes : "") + "}\n",
                    joined(row(77, 0, 0, 0, 1, 7, 8, n), its, row(0)));
                notTaken(9 + n, joined(row(77, 0, 0, 0, 1, 7, 8, n), its, row(0, 0)));
                notTaken(8 + n, joined(row(77, 0, 0, 0, 1, 7, 8, n), its));
            }
        }
        notTaken(120, joined(row(77, 0, 1, 2, 255), times(115, 0)));
        notTaken(120, joined(row(77, 0, 0, 0, 1, 7, 8, 255), times(112, 0)));
        notTaken(120, joined(row(77, 0, 0, 0, 0, 1, 7, 255), times(112, 0)));
    }

    private static void tooFew() {
        CHECKS.about("FAULTY .. if there are too few, at its length");
        for (int[] row : new int[][] {RICH, OLD, {77, 0, 0, 0, 0, 0}, ofLength(120, 3, 1, 0, 2, 1, 2)}) {
            for (int length = 0; length < row.length; length++) {
                notTaken(length, Arrays.copyOf(row, length));
            }
        }
        notTaken(0);
    }

    private static void tooMany() {
        CHECKS.about("Nothing stands behind them. FAULTY .. too many, at the first that is too many");
        for (int[] row : new int[][] {RICH, OLD, {77, 0, 0, 0, 0, 0}}) {
            for (int more : new int[] {1, 2, 3, 124 - row.length}) {
                notTaken(row.length, joined(row, times(more, 0)));
                notTaken(row.length, joined(row, times(more, 77)));
            }
        }
        for (int length = 114; length <= 120; length++) {
            for (int more = 1; length + more <= 124; more++) {
                notTaken(length, joined(ofLength(length, 0, 0), times(more, 0)));
            }
        }
    }

    // ---- terms: a code

    private static void codeTaken(String lines, int... code) {
        taken("block 0\ncode 0 0 {\n" + lines + "}\n", withCode(code));
    }

    private static void instructions() {
        CHECKS.about("INSTRUCTIONS: a byte, and what belongs to it");
        String[] words = {"nop", "push", "load", "add", "sub", "dup", "jump", "zero", "call", "ret", "pick"};
        for (int b = 0; b < 256; b++) {
            String hex = String.format("%02x", b);
            boolean bare = b == 0 || b == 3 || b == 4 || b == 5 || b == 9;
            boolean withByte = b == 1 || b == 2 || b == 8;
            boolean withDistance = b == 6 || b == 7;
            String word = b < words.length ? words[b] : "";
            codeTaken(bare ? word + "\n" : "raw x" + hex + "\n", b);
            codeTaken(bare ? word + "\n" + word + "\n" : withByte ? word + " " + b + "\n" : "raw x" + hex + hex + "\n",
                b, b);
            codeTaken(bare ? "nop\n" + word + "\n" : "raw x00" + hex + "\n", 0, b);
            codeTaken(bare ? word + "\nret\n" : withByte ? word + " 9\n" : "raw x" + hex + "09\n", b, 9);
            codeTaken(bare ? word + "\nnop\nret\n" : withByte ? word + " 0\nret\n" : withDistance ? word + " +9\n"
                : b == 10 ? "pick 0\nret\n" : "raw x" + hex + "0009\n", b, 0, 9);
        }
        codeTaken("push 11\nload 11\ncall 255\n", 1, 11, 2, 11, 8, 255);
        codeTaken("raw x0a01\n", 10, 1);
        codeTaken("raw x0a0100\n", 10, 1, 0);
        codeTaken("pick 1 +7\n", 10, 1, 0, 7);
        codeTaken("raw x0a0200070007ff\n", 10, 2, 0, 7, 0, 7, 255);
        codeTaken("raw x0a02000700\n", 10, 2, 0, 7, 0);
        codeTaken("pick 54" + " +1".repeat(54) + "\n", joined(row(10, 54), times(54, 0, 1)));
        codeTaken("pick 54" + " +1".repeat(54) + "\nret\n", joined(row(10, 54), times(54, 0, 1), row(9)));
        codeTaken("raw x0a37" + "0001".repeat(54) + "\n", joined(row(10, 55), times(54, 0, 1)));
        codeTaken("raw x0aff" + "0001".repeat(54) + "\n", joined(row(10, 255), times(54, 0, 1)));
        taken("block 0\ncode 0 0 {\nraw x0600\n}\ncode 0 0 {\n}\n", 77, 0, 0, 0, 2, 0, 0, 2, 6, 0, 0, 0, 0, 0);
        taken("block 0\ncode 0 0 {\nraw x01\n}\nattach 0 x\n", 77, 0, 0, 0, 1, 0, 0, 1, 1, 1, 0, 0);
    }

    private static void signedOperands() {
        CHECKS.about("push: a byte, signed. load, call: a byte. jump, zero: .. the DISTANCE, signed, "
            + "the higher one first");
        for (int b = 0; b < 256; b++) {
            codeTaken("push " + (b < 128 ? b : b - 256) + "\nload " + b + "\ncall " + b + "\n", 1, b, 2, b, 8, b);
        }
        for (int distance : new int[] {-32768, -32767, -10000, -9999, -1000, -999, -257, -256, -255, -129, -128, -100,
            -99, -10, -9, -1, 6, 9, 10, 99, 100, 127, 128, 255, 256, 257, 999, 1000, 9999, 10000, 32766, 32767}) {
            String number = String.format("%+d", distance);
            int high = distance >> 8 & 255;
            int low = distance & 255;
            codeTaken("jump " + number + "\n", 6, high, low);
            codeTaken("zero " + number + "\n", 7, high, low);
            codeTaken("pick 2 " + number + " " + number + "\n", 10, 2, high, low, high, low);
        }
    }

    private static void clearIs(int want, int... code) {
        Loom x = withOldBlock();
        due("put", x.putAll(withCode(code)), true);
        due("take() of the code " + Loom.joined(code), x.take() > 0, true);
        due("clear(0) of the code " + Loom.joined(code), x.clear(0), want);
        due("clear(1) of the code " + Loom.joined(code), x.clear(1), -1);
    }

    private static void clearCodes() {
        CHECKS.about("A code is CLEAR if its bytes are just instructions (maybe none)");
        clearIs(1);
        for (int b = 0; b < 256; b++) {
            clearIs(b == 0 || b == 3 || b == 4 || b == 5 || b == 9 ? 1 : 0, b);
            clearIs(b == 1 || b == 2 || b == 8 ? 1 : 0, b, 11);
            clearIs(b == 6 || b == 7 ? 1 : 0, b, 11, 11);
            clearIs(b == 10 ? 1 : 0, b, 1, 11, 11);
        }
        clearIs(1, 10, 0);
        clearIs(0, 10, 0, 10);
        clearIs(0, 10, 1, 0);
        clearIs(0, 10, 1, 0, 0, 11);
        clearIs(1, 10, 1, 0, 0, 9);
        clearIs(1, times(111, 9));
        clearIs(0, joined(times(110, 9), row(11)));
        clearIs(0, joined(times(110, 9), row(1)));
        clearIs(1, joined(times(109, 9), row(1, 1)));
        clearIs(0, joined(times(109, 9), row(6, 1)));
        clearIs(1, joined(times(108, 9), row(6, 1, 1)));
    }

    private static void targets() {
        CHECKS.about("The TARGET of a distance is the place .. of the instruction's first byte + the distance");
        codeTaken("@0\njump @0\n", 6, 0, 0);
        codeTaken("@0\nzero @0\n", 7, 0, 0);
        codeTaken("@0\npick 1 @0\n", 10, 1, 0, 0);
        codeTaken("@0\nnop\njump @0\n", 0, 6, 255, 255);
        codeTaken("nop\njump -2\n", 0, 6, 255, 254);
        codeTaken("jump -1\n", 6, 255, 255);
        codeTaken("jump @0\n@0\nret\n", 6, 0, 3, 9);
        codeTaken("jump +4\nret\n", 6, 0, 4, 9);
        codeTaken("jump +5\nret\n", 6, 0, 5, 9);
        codeTaken("jump +3\n", 6, 0, 3);
        codeTaken("jump +1\nret\n", 6, 0, 1, 9);
        codeTaken("jump +2\nret\n", 6, 0, 2, 9);
        codeTaken("push 9\njump -1\n", 1, 9, 6, 255, 255);
        codeTaken("@0\npush 9\njump @0\n", 1, 9, 6, 255, 254);
        codeTaken("jump +4\npush 9\n", 6, 0, 4, 1, 9);
        codeTaken("pick 3 @0 @1 +10\n@0\nnop\n@1\npush 0\n", 10, 3, 0, 8, 0, 9, 0, 10, 0, 1, 0);
        codeTaken("pick 3 +2 +7 @0\n@0\nret\n", 10, 3, 0, 2, 0, 7, 0, 8, 9);
        codeTaken("@0\nnop\npick 2 @0 -2\n", 0, 10, 2, 255, 255, 255, 254);
        codeTaken("jump +256\njump -256\n", 6, 1, 0, 6, 255, 0);
        // Bytes that would be a jump, zero or pick to some instruction, but are none of their code.
        codeTaken("push 6\nnop\npush 9\n", 1, 6, 0, 1, 9);
        codeTaken("load 7\nnop\npush 9\n", 2, 7, 0, 1, 9);
        codeTaken("call 10\npush 0\npush 9\n", 8, 10, 1, 0, 1, 9);
        codeTaken("jump +1536\nload 9\n", 6, 6, 0, 2, 9);
        codeTaken("pick 1 +7\npush 9\n", 10, 1, 0, 7, 1, 9);
        codeTaken("raw x0006ffffff\n", 0, 6, 255, 255, 255);
        taken("block 0\ncode 1 1 {\nnop\nnop\n}\ncode 10 2 {\nraw x0bfffe\n}\n",
            77, 0, 0, 0, 2, 1, 1, 2, 0, 0, 10, 2, 3, 11, 255, 254, 0);
        taken("block 0\ncode 1 1 {\n" + "nop\n".repeat(80) + "}\nattach 1 xff\n",
            joined(row(77, 0, 0, 0, 1, 1, 1, 80), times(80, 0), row(1, 1, 1, 255)));
        codeTaken("@0\nret\nzero @0\n" + "nop\n".repeat(107), joined(row(9, 7, 255, 255), times(107, 0)));
        codeTaken("jump @0\n" + "nop\n".repeat(107) + "@0\nret\n", joined(row(6, 0, 110), times(107, 0), row(9)));
        codeTaken("jump +111\n" + "nop\n".repeat(108), joined(row(6, 0, 111), times(108, 0)));
        codeTaken("@0\n" + "nop\n".repeat(108) + "jump @0\n", joined(times(108, 0), row(6, 255, 148)));
        codeTaken("nop\n".repeat(108) + "jump -109\n", joined(times(108, 0), row(6, 255, 147)));
        taken("block 0\ncode 0 0 {\nret\n}\ncode 0 0 {\njump @0\n@0\nret\n}\ncode 0 0 {\njump -4\nret\n}\n",
            77, 0, 0, 0, 3, 0, 0, 1, 9, 0, 0, 4, 6, 0, 3, 9, 0, 0, 4, 6, 255, 252, 9, 0);
    }

    private static void lineNumbers() {
        CHECKS.about("a line @K before it, K counting these lines of the code from 0");
        codeTaken("pick 2 @1 @0\n@0\nnop\n@1\nnop\n", 10, 2, 0, 7, 0, 6, 0, 0);
        codeTaken("jump @0\njump @0\n@0\nret\n", 6, 0, 6, 6, 0, 3, 9);
        codeTaken("pick 3 @0 @0 @0\n@0\nret\n", 10, 3, 0, 8, 0, 8, 0, 8, 9);
        codeTaken("nop\njump @0\nnop\n@0\nret\n", 0, 6, 0, 4, 0, 9);
        codeTaken("@0\nnop\n@1\njump @1\n@2\nzero @0\njump @2\n", 0, 6, 0, 0, 7, 255, 252, 6, 255, 253);
        taken("block 0\ncode 0 0 {\n@0\njump @0\n@1\njump @1\n}\ncode 0 0 {\n@0\njump @0\n}\n",
            77, 0, 0, 0, 2, 0, 0, 6, 6, 0, 0, 6, 0, 0, 0, 0, 3, 6, 0, 0, 0);
        StringBuilder named = new StringBuilder("pick 36");
        StringBuilder lines = new StringBuilder();
        int[] code = row(10, 36);
        for (int i = 0; i < 36; i++) {
            named.append(" @").append(i);
            lines.append('@').append(i).append("\nnop\n");
            code = joined(code, row(0, 74 + i));
        }
        codeTaken(named + "\n" + lines, joined(code, times(36, 0)));
    }

    // ---- terms: the text of a block

    private static String nameText(int... name) {
        StringBuilder plain = new StringBuilder("\"");
        StringBuilder bytes = new StringBuilder("x");
        boolean isPlain = name.length > 0;
        for (int c : name) {
            isPlain &= c > 32 && c < 127 && c != 34;
            plain.append((char) c);
            bytes.append(String.format("%02x", c));
        }
        return isPlain ? plain.append('"').toString() : bytes.toString();
    }

    private static void plainNames() {
        CHECKS.about("A NAME is its characters between \" and \", if there is at least one and "
            + "all are 33 .. 126 other than \"");
        taken("block 0\nname x\n", 77, 0, 1, 2, 0, 0, 0, 0);
        for (int c = 0; c < 256; c++) {
            taken("block 0\nname " + nameText(c) + "\nname " + nameText(97, c) + "\nname " + nameText(c, 97) + "\nname "
                + nameText(97, c, 98) + "\n",
                77, 0, 4, 2, 1, c, 2, 2, 97, c, 2, 2, c, 97, 2, 3, 97, c, 98, 0, 0, 0);
        }
        due("the last plain one", nameText(126), "\"~\"");
        due("the first that is none", nameText(127), "x7f");
    }

    private static void numbersInTexts() {
        CHECKS.about("Numbers are in base 10, a - before those below 0, no needless 0");
        for (int b = 0; b < 256; b++) {
            taken("block " + b + "\npair " + b + " " + b + "\nfield " + b + " " + b + "\ncode " + b + " " + b
                + " {\n}\nattach "
                + b + " x" + String.format("%02x", b) + "\n",
                77, b, 1, 3, b, b, 1, b, b, 1, b, b, 0, 1, b, 1, b);
        }
        for (long power = 1, digits = 1; digits <= 19; power *= 10, digits++) {
            for (long value : new long[] {power - 1, power, 1 - power, -power}) {
                taken("block 0\nlong " + value + "\n", joined(row(77, 0, 1, 4), bytesOf(value, 8), row(0, 0, 0)));
                if (value == (int) value) {
                    taken("block 0\nint " + value + "\n", joined(row(77, 0, 1, 1), bytesOf(value, 4), row(0, 0, 0)));
                }
            }
        }
    }

    private static void layout() {
        CHECKS.about("one space between each two words of a line, and a 10 behind each line");
        Loom x = new Loom();
        due("text of the bare block", x.text(), "block 0\n");
        due("put", x.putAll(RICH), true);
        due("take()", x.take(), RICH_TEXT.length());
        due("the last character", x.at(RICH_TEXT.length() - 1), 10);
        due("behind it", x.at(RICH_TEXT.length()), -1);
        due("text", x.text(), RICH_TEXT);
    }
}
