import java.util.ArrayList;
import java.util.Arrays;
import java.util.List;
import java.util.Random;
import java.util.regex.Matcher;
import java.util.regex.Pattern;

/** Compares the class with a plainer writing of the document, over blocks and texts that a fixed seed yields. */
public final class ModelTest {
    private static final String[] WORDS = {
        "nop", "push", "load", "add", "sub", "dup", "jump", "zero", "call", "ret", "pick"};

    private static final Checks CHECKS = new Checks();
    private static int goodRows = 0;
    private static int faultyRows = 0;
    private static int goodTexts = 0;
    private static int faultyTexts = 0;

    public static void main(String[] args) {
        Random random = new Random(20261115);
        for (int i = 0; i < 40000; i++) {
            Loom x = new Loom();
            int[] block = Model.START;
            for (int k = 0; k < 4; k++) {
                block = random.nextBoolean()
                    ? tryBytes(x, block, someBytes(random))
                    : tryText(x, block, someText(random));
            }
        }
        String sorts = goodRows + " good and " + faultyRows + " faulty rows, " + goodTexts + " good and " + faultyTexts
            + " faulty texts";
        int fewest = Math.min(Math.min(goodRows, faultyRows), Math.min(goodTexts, faultyTexts));
        due("whether there were enough: " + sorts, fewest > 9000, true);
        System.out.println(sorts);
        CHECKS.end();
    }

    private static void due(String what, Object got, Object want) {
        CHECKS.due(what, got, want);
    }

    private static int[] tryBytes(Loom x, int[] before, int[] bytes) {
        String what = "bytes " + Arrays.toString(bytes);
        due("put of " + what, x.putAll(bytes), true);
        int got = x.take();
        int[] after;
        try {
            String text = Model.textOf(bytes);
            due(what, got, text.length());
            after = bytes;
            goodRows++;
        } catch (Model.Fault fault) {
            due(what, got, -1 - fault.place);
            after = before;
            faultyRows++;
        }
        compare(what, x, after);
        return after;
    }

    private static int[] tryText(Loom x, int[] before, String text) {
        String what = "text " + text;
        due("type of " + what, x.typeAll(text), true);
        int got = x.make();
        int[] after;
        try {
            after = new Model(text).block();
            due(what, got, after.length);
            goodTexts++;
        } catch (Model.Fault fault) {
            due(what, got, -1 - fault.place);
            after = before;
            faultyTexts++;
        }
        compare(what, x, after);
        return after;
    }

    private static void compare(String what, Loom x, int[] block) {
        String text = Model.textOf(block);
        due(what + ": size()", x.size(), block.length);
        due(what + ": length()", x.length(), text.length());
        due(what + ": exact()", x.exact(), Arrays.equals(new Model(text).block(), block));
        due(what + ": bytes", x.bytes(), Loom.joined(block));
        due(what + ": text", x.text(), text);
        String lines = "\n" + text;
        due(what + ": count(0)", x.count(0), times(lines, "\n(int|name|pair|long) "));
        due(what + ": count(1)", x.count(1), times(lines, "\nfield "));
        due(what + ": count(2)", x.count(2), times(lines, "\ncode "));
        due(what + ": count(3)", x.count(3), times(lines, "\nattach "));
        Matcher code = Pattern.compile("\\{\n(raw)?").matcher(text);
        int k = 0;
        for (; code.find(); k++) {
            due(what + ": clear(" + k + ")", x.clear(k), code.group(1) == null ? 1 : 0);
        }
        due(what + ": clear(" + k + ")", x.clear(k), -1);
    }

    private static int times(String text, String pattern) {
        return (int) Pattern.compile(pattern).matcher(text).results().count();
    }

    // ---- what is tried

    private static int[] someBytes(Random random) {
        List<Integer> row = someBlock(random, random.nextInt(4) == 0 ? 12 : 4);
        for (int changes = random.nextInt(3); changes > 0 && !row.isEmpty(); changes--) {
            int i = random.nextInt(row.size());
            switch (random.nextInt(5)) {
                case 0: row.set(i, random.nextInt(256)); break;
                case 1: row.set(i, random.nextInt(12)); break;
                case 2: row.remove(i); break;
                case 3: row.add(i, random.nextInt(12)); break;
                default: row = new ArrayList<>(row.subList(0, i)); break;
            }
        }
        while (random.nextInt(8) == 0 && row.size() < 124) {
            row.add(random.nextInt(4));
        }
        int[] bytes = row.stream().mapToInt(b -> b).limit(124).toArray();
        return Model.leavesOpen(bytes) ? Arrays.copyOf(bytes, 120) : bytes;
    }

    private static List<Integer> someBlock(Random random, int most) {
        List<Integer> row = new ArrayList<>(List.of(77, random.nextInt(256)));
        for (int part = 0; part < 4; part++) {
            int many = random.nextInt(most) * random.nextInt(2);
            row.add(many);
            for (int i = 0; i < many; i++) {
                int kind = 1 + random.nextInt(4);
                if (part == 0) {
                    row.add(kind);
                }
                if (part == 0 && kind == 2 || part == 3) {
                    if (part == 3) {
                        row.add(random.nextInt(256));
                    }
                    int n = random.nextInt(5);
                    row.add(n);
                    boolean plain = random.nextBoolean();
                    for (int k = 0; k < n; k++) {
                        row.add(plain ? 32 + random.nextInt(95) : random.nextInt(256));
                    }
                } else if (part == 2) {
                    List<Integer> code = someCode(random);
                    row.addAll(List.of(random.nextInt(256), random.nextInt(256), code.size()));
                    row.addAll(code);
                } else {
                    int n = part == 1 ? 2 : kind == 1 ? 4 : kind == 3 ? 2 : 8;
                    int[] likely = {0, 255, 128, 127, random.nextInt(256)};
                    for (int k = 0; k < n; k++) {
                        row.add(likely[random.nextInt(5)]);
                    }
                }
            }
        }
        return row;
    }

    private static List<Integer> someCode(Random random) {
        List<Integer> code = new ArrayList<>();
        for (int i = random.nextInt(9); i > 0; i--) {
            int instruction = random.nextInt(11);
            int distances = instruction == 6 || instruction == 7 ? 1 : 0;
            code.add(instruction);
            if (instruction == 10) {
                distances = random.nextInt(4);
                code.add(distances);
            } else if (instruction == 1 || instruction == 2 || instruction == 8) {
                code.add(random.nextInt(256));
            }
            for (; distances > 0; distances--) {
                int distance = random.nextInt(6) == 0 ? random.nextInt(65536) - 32768 : random.nextInt(25) - 12;
                code.addAll(List.of(distance >> 8 & 255, distance & 255));
            }
        }
        if (random.nextInt(6) == 0) {
            code.add(random.nextInt(14));
        }
        return code;
    }

    private static String someText(Random random) {
        String text;
        if (random.nextInt(3) == 0) {
            text = someNearlyFullText(random);
        } else {
            do {
                List<Integer> row = someBlock(random, 3);
                int[] bytes = row.stream().mapToInt(b -> b).toArray();
                text = bytes.length > 120 ? " ".repeat(201) : Model.textOf(bytes);
            } while (text.length() > 170);
        }
        List<String> words = new ArrayList<>(List.of(text.trim().split("[ \n]+")));
        for (int changes = random.nextInt(3); changes > 0 && !words.isEmpty(); changes--) {
            int i = random.nextInt(words.size());
            switch (random.nextInt(6)) {
                case 0: words.set(i, someWord(random)); break;
                case 1: words.remove(i); break;
                case 2: words.add(i, someWord(random)); break;
                case 3: words.add(i, words.get(random.nextInt(words.size()))); break;
                case 4: words = new ArrayList<>(words.subList(0, i)); break;
                default:
                    words.set(i, words.get(i).substring(random.nextInt(2)) + "0}@a\"".charAt(random.nextInt(5)));
                    break;
            }
        }
        StringBuilder out = new StringBuilder();
        for (String word : words) {
            out.append(random.nextInt(9) == 0 ? " " : "").append(word).append(random.nextInt(5) == 0 ? '\n' : ' ');
        }
        String all = random.nextBoolean() ? out.toString().trim() : out.toString();
        return all.substring(0, Math.min(200, all.length()));
    }

    private static String someNearlyFullText(Random random) {
        StringBuilder text = new StringBuilder("block 1");
        for (int i = 10 + random.nextInt(3); i > 0; i--) {
            text.append(" long ").append(random.nextInt(10));
        }
        String[] items = {" int 1", " name \"abcd\"", " name x", " name x0102", " pair 1 2", " field 1 2",
            " field 3 4", " code 1 2 { nop jump @0 @0 }", " code 1 2 { pick 2 +1 -1 }", " code 1 2 { @0 }",
            " code 1 2 { raw x0102 }", " code 1 2 { push -1 nop nop call 1 }", " attach 1 x", " attach 1 x0102"};
        int next = 0;
        for (int i = 0; i < 8; i++) {
            next = Math.min(items.length - 1, next + random.nextInt(3));
            text.append(items[next]);
        }
        return text.toString();
    }

    private static String someWord(Random random) {
        String[] likely = {"block", "int", "name", "pair", "long", "field", "code", "attach", "{", "}", "raw", "x",
            "x0a", "x0", "\"a\"", "\"\"", "@0", "@1", "@2", "@3", "@01", "@", "@99999999999999999999", "+0", "-0",
            "-1", "+1", "0", "1", "2", "127", "128", "-128", "-129", "255", "256", "-32768", "+32767", "+32768",
            "-32769", "2147483647", "2147483648", "-2147483648", "9223372036854775807", "9223372036854775808",
            "-9223372036854775808", "-9223372036854775809"};
        int i = random.nextInt(likely.length + WORDS.length);
        return i < likely.length ? likely[i] : WORDS[i - likely.length];
    }

    /** The document, written with the Java library. */
    private static final class Model {
        static final int[] START = {77, 0, 0, 0, 0, 0};

        static final class Fault extends RuntimeException {
            private static final long serialVersionUID = 1L;
            final int place;

            Fault(int place) {
                super(null, null, false, false);
                this.place = place;
            }
        }

        // -- from bytes to a text

        private static int next(int[] bytes, int[] i) {
            if (i[0] >= bytes.length) {
                throw new Fault(bytes.length);
            }
            return bytes[i[0]++];
        }

        private static int[] some(int[] bytes, int[] i, int n) {
            int[] some = new int[n];
            for (int k = 0; k < n; k++) {
                some[k] = next(bytes, i);
            }
            return some;
        }

        /** Whether the row has both too many bytes for a block and too few for what it announces. */
        static boolean leavesOpen(int[] bytes) {
            try {
                walk(bytes);
                return false;
            } catch (Fault fault) {
                return bytes.length > 120 && fault.place == bytes.length;
            }
        }

        static String textOf(int[] bytes) {
            try {
                String text = walk(bytes);
                if (bytes.length > 120) {
                    throw new Fault(120);
                }
                return text;
            } catch (Fault fault) {
                throw new Fault(Math.min(120, fault.place));
            }
        }

        private static String walk(int[] bytes) {
            StringBuilder text = new StringBuilder();
            int[] i = {0};
            if (next(bytes, i) != 77) {
                throw new Fault(0);
            }
            text.append("block ").append(next(bytes, i)).append('\n');
            for (int n = next(bytes, i); n > 0; n--) {
                text.append(entry(bytes, i)).append('\n');
            }
            for (int n = next(bytes, i); n > 0; n--) {
                text.append("field ").append(next(bytes, i)).append(' ').append(next(bytes, i)).append('\n');
            }
            for (int n = next(bytes, i); n > 0; n--) {
                text.append("code ").append(next(bytes, i)).append(' ').append(next(bytes, i)).append(" {\n");
                text.append(codeText(some(bytes, i, next(bytes, i)))).append("}\n");
            }
            for (int n = next(bytes, i); n > 0; n--) {
                text.append("attach ").append(next(bytes, i)).append(' ');
                text.append(hex(some(bytes, i, next(bytes, i)))).append('\n');
            }
            if (i[0] < bytes.length) {
                throw new Fault(i[0]);
            }
            return text.toString();
        }

        private static String entry(int[] bytes, int[] i) {
            int kind = next(bytes, i);
            switch (kind) {
                case 1: return "int " + (int) Long.parseUnsignedLong(hex(some(bytes, i, 4)).substring(1), 16);
                case 2: return "name " + name(some(bytes, i, next(bytes, i)));
                case 3: return "pair " + next(bytes, i) + " " + next(bytes, i);
                case 4: return "long " + Long.parseUnsignedLong(hex(some(bytes, i, 8)).substring(1), 16);
                default: throw new Fault(i[0] - 1);
            }
        }

        private static String name(int[] bytes) {
            StringBuilder name = new StringBuilder();
            Arrays.stream(bytes).forEach(b -> name.append((char) b));
            return name.toString().matches("[!-~&&[^\"]]+") ? "\"" + name + "\"" : hex(bytes);
        }

        private static String hex(int[] bytes) {
            StringBuilder hex = new StringBuilder("x");
            Arrays.stream(bytes).forEach(b -> hex.append(String.format("%02x", b)));
            return hex.toString();
        }

        private static String codeText(int[] code) {
            List<Integer> starts = new ArrayList<>();
            List<List<Integer>> distances = new ArrayList<>();
            for (int i = 0; i < code.length;) {
                int op = code[i];
                boolean pickWithoutNumber = op == 10 && i + 1 == code.length;
                if (op > 10 || pickWithoutNumber) {
                    return "raw " + hex(code) + "\n";
                }
                int head = op == 1 || op == 2 || op == 8 || op == 10 ? 2 : 1;
                int many = op == 10 ? code[i + 1] : op == 6 || op == 7 ? 1 : 0;
                if (i + head + 2 * many > code.length) {
                    return "raw " + hex(code) + "\n";
                }
                List<Integer> its = new ArrayList<>();
                for (int k = 0; k < many; k++) {
                    its.add((int) (short) (code[i + head + 2 * k] * 256 + code[i + head + 2 * k + 1]));
                }
                starts.add(i);
                distances.add(its);
                i += head + 2 * many;
            }
            List<Integer> lines = new ArrayList<>();
            for (int start : starts) {
                for (int k = 0; k < starts.size(); k++) {
                    for (int distance : distances.get(k)) {
                        if (starts.get(k) + distance == start && !lines.contains(start)) {
                            lines.add(start);
                        }
                    }
                }
            }
            StringBuilder text = new StringBuilder();
            for (int k = 0; k < starts.size(); k++) {
                int start = starts.get(k);
                int op = code[start];
                if (lines.contains(start)) {
                    text.append("@").append(lines.indexOf(start)).append("\n");
                }
                text.append(WORDS[op]);
                if (op == 1) {
                    text.append(" ").append((byte) code[start + 1]);
                } else if (op == 2 || op == 8 || op == 10) {
                    text.append(" ").append(code[start + 1]);
                }
                for (int distance : distances.get(k)) {
                    int line = lines.indexOf(start + distance);
                    text.append(" ").append(line >= 0 ? "@" + line : String.format("%+d", distance));
                }
                text.append("\n");
            }
            return text.toString();
        }

        // -- from a text to bytes

        private final List<String> words = new ArrayList<>();
        private final List<Integer> places = new ArrayList<>();
        private int now = 0;
        private int size = 6;

        Model(String text) {
            Matcher m = Pattern.compile("[^ \n]+").matcher(text);
            while (m.find()) {
                words.add(m.group());
                places.add(m.start());
            }
            words.add("");
            places.add(text.length());
        }

        private String word() {
            return words.get(now);
        }

        private void need(boolean good) {
            if (!good) {
                throw new Fault(places.get(now));
            }
        }

        /** Goes on behind a word that brings these bytes. */
        private void pass(List<Integer> to, int... brought) {
            size += brought.length;
            need(size <= 120);
            for (int b : brought) {
                to.add(b);
            }
            now++;
        }

        private void number(List<Integer> to, String least, String most, int width) {
            need(word().matches("0|-?[1-9][0-9]*"));
            java.math.BigInteger value = new java.math.BigInteger(word());
            need(value.compareTo(new java.math.BigInteger(least)) >= 0);
            need(value.compareTo(new java.math.BigInteger(most)) <= 0);
            int[] bytes = new int[width];
            for (int i = 0; i < width; i++) {
                bytes[i] = value.shiftRight(8 * (width - 1 - i)).intValue() & 255;
            }
            pass(to, bytes);
        }

        private void aByte(List<Integer> to) {
            number(to, "0", "255", 1);
        }

        private void hexWord(List<Integer> to, boolean withNumber) {
            need(word().matches("x([0-9a-f][0-9a-f])*"));
            List<Integer> bytes = new ArrayList<>();
            for (int i = 1; i < word().length(); i += 2) {
                bytes.add(Integer.parseInt(word().substring(i, i + 2), 16));
            }
            if (withNumber) {
                bytes.add(0, bytes.size());
            }
            pass(to, bytes.stream().mapToInt(b -> b).toArray());
        }

        int[] block() {
            List<Integer> out = new ArrayList<>();
            out.add(77);
            need(word().equals("block"));
            now++;
            aByte(out);
            size--;
            List<List<Integer>> parts = new ArrayList<>();
            int[] many = new int[4];
            String[] starts = {"int|name|pair|long", "field", "code", "attach"};
            for (int part = 0; part < 4; part++) {
                List<Integer> its = new ArrayList<>();
                for (; word().matches(starts[part]); many[part]++) {
                    item(its);
                }
                parts.add(its);
            }
            need(word().isEmpty());
            for (int part = 0; part < 4; part++) {
                out.add(many[part]);
                out.addAll(parts.get(part));
            }
            return out.stream().mapToInt(b -> b).toArray();
        }

        private void item(List<Integer> to) {
            switch (word()) {
                case "int": pass(to, 1); number(to, "-2147483648", "2147483647", 4); break;
                case "long": pass(to, 4); number(to, "-9223372036854775808", "9223372036854775807", 8); break;
                case "pair": pass(to, 3); aByte(to); aByte(to); break;
                case "field": now++; aByte(to); aByte(to); break;
                case "attach": now++; aByte(to); hexWord(to, true); break;
                case "name":
                    pass(to, 2);
                    if (word().matches("\"[^\"]+\"")) {
                        String name = word().substring(1, word().length() - 1);
                        int[] bytes = (" " + name).chars().toArray();
                        bytes[0] = name.length();
                        pass(to, bytes);
                    } else {
                        hexWord(to, true);
                    }
                    break;
                default: code(to); break;
            }
        }

        private void code(List<Integer> to) {
            now++;
            aByte(to);
            aByte(to);
            need(word().equals("{"));
            pass(to, 0);
            List<Integer> code = new ArrayList<>();
            List<Integer> lines = new ArrayList<>();
            List<int[]> jumps = new ArrayList<>();
            List<String> named = new ArrayList<>();
            if (word().equals("raw")) {
                now++;
                hexWord(code, false);
                need(word().equals("}"));
            }
            while (!word().equals("}")) {
                if (word().equals("@" + lines.size())) {
                    lines.add(code.size());
                    now++;
                    continue;
                }
                int op = Arrays.asList(WORDS).indexOf(word());
                need(op >= 0);
                int start = code.size();
                pass(code, op);
                if (op == 1) {
                    number(code, "-128", "127", 1);
                }
                if (op == 2 || op == 8 || op == 10) {
                    aByte(code);
                }
                int many = op == 10 ? code.get(start + 1) : op == 6 || op == 7 ? 1 : 0;
                for (; many > 0; many--) {
                    if (word().matches("@(0|[1-9][0-9]*)")) {
                        named.add(word());
                        jumps.add(new int[] {start, code.size()});
                        pass(code, 0, 0);
                    } else {
                        need(word().matches("\\+0|[+-][1-9][0-9]*"));
                        words.set(now, word().replace("+", ""));
                        number(code, "-32768", "32767", 2);
                    }
                }
            }
            for (int i = 0; i < named.size(); i++) {
                int line = -1;
                for (int k = 0; k < lines.size(); k++) {
                    line = named.get(i).equals("@" + k) ? k : line;
                }
                need(line >= 0);
                int distance = lines.get(line) - jumps.get(i)[0];
                code.set(jumps.get(i)[1], distance >> 8 & 255);
                code.set(jumps.get(i)[1] + 1, distance & 255);
            }
            now++;
            to.set(to.size() - 1, code.size());
            to.addAll(code);
        }
    }
}
