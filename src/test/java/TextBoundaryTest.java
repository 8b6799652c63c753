import java.math.BigInteger;
import java.util.Arrays;

/**
 * Making blocks of texts.
 * For each sentence of the document there that names a boundary case, a test of its own, which names its sentence: the
 * last value that is taken and the first that is not, what is answered at each, and that what has to stay has stayed.
 */
public final class TextBoundaryTest extends BoundaryCases {
    public static void main(String[] args) {
        spaces();
        namesAsBytes();
        typedNames();
        typedBytes();
        typedDistances();
        typedLines();
        typedRaw();
        numberRanges();
        numberForms();
        firstWrongWord();
        endsTooEarly();
        linesThatAreNone();
        room();
        roomUnneeded();
        CHECKS.end();
    }

    // ---- terms: making a block of a text

    // Words of every sort, with the bytes that each brings behind the first two, and a | behind each item.
    private static final String WORDS = "int:1 -2:4 | name:1 \"ab\":3 | pair:1 0:1 255:1 | field:0 1:1 2:1 | "
        + "code:0 5:1 6:1 {:1 @0:0 nop:1 push:1 -1:1 jump:1 @0:2 zero:1 +1:2 pick:1 2:1 @1:2 -2:2 @1:0 }:0 | "
        + "code:0 7:1 8:1 {:1 raw:0 x0b:1 }:0 | attach:0 9:1 x0010ff:4 |";
    private static final int[] WORDS_ROW = {77, 1, 3, 1, 255, 255, 255, 254, 2, 2, 97, 98, 3, 0, 255, 1, 1, 2,
        2, 5, 6, 15, 0, 1, 255, 6, 255, 253, 7, 0, 1, 10, 2, 0, 6, 255, 254, 7, 8, 1, 11, 1, 9, 3, 0, 16, 255};

    private static String[] words() {
        return ("block 1 " + WORDS.replaceAll(":[0-9]+", "").replace(" |", "")).split(" ");
    }

    private static void spaces() {
        CHECKS.about("the words are read in order, spaces and 10 being alike");
        String text = String.join(" ", words());
        made(text, WORDS_ROW);
        made(text.replace(' ', '\n'), WORDS_ROW);
        made("\n \n" + text + " \n ", WORDS_ROW);
        made(text.replace(" {", "\n\n{").replace("field ", "\nfield \n "), WORDS_ROW);
        made("block\n\n\n1" + " ".repeat(190), 77, 1, 0, 0, 0, 0);
        made(" ".repeat(193) + "block 1", 77, 1, 0, 0, 0, 0);
        made("\n".repeat(193) + "block\n1", 77, 1, 0, 0, 0, 0);
        made(" block 1", 77, 1, 0, 0, 0, 0);
        notMade("~block1");
        notMade("~b lock 1");
        notMade("block 1 ~1");
        notMade("block 1 int 1 ~2");
        notMade("block 1 int ~- 2");
        notMade("block 1 code 1 2 ~{} ");
        notMade("block 1 code 1 2 { nop ~}attach 1 x");
        notMade("block 1 code 1 2 { ~@0nop }");
        notMade("block 1 attach 1 ~x0 0");
        notMade("block 1 attach 1 x ~00");
    }

    private static void namesAsBytes() {
        CHECKS.about("a name may be BYTES anyway");
        made("block 1 name x61", 77, 1, 1, 2, 1, 97, 0, 0, 0);
        made("block 1 name x617e21", 77, 1, 1, 2, 3, 97, 126, 33, 0, 0, 0);
        made("block 1 name x name x22 name x00ff", 77, 1, 3, 2, 0, 2, 1, 34, 2, 2, 0, 255, 0, 0, 0);
        Loom x = new Loom();
        x.typeAll("block 1 name x617e21 name x20");
        due("make()", x.make(), 14);
        due("text", x.text(), "block 1\nname \"a~!\"\nname x20\n");
    }

    private static void typedNames() {
        CHECKS.about("A NAME is its characters between \" and \", if there is at least one and "
            + "all are 33 .. 126 other than \"");
        for (int c = 33; c <= 126; c++) {
            for (String name : new String[] {"" + (char) c, "a" + (char) c, (char) c + "a", "a" + (char) c + "a"}) {
                if (c != 34) {
                    made("block 1 name \"" + name + "\"",
                        joined(row(77, 1, 1, 2, name.length()), name.chars().toArray(), row(0, 0, 0)));
                } else {
                    notMade(13, "block 1 name \"" + name + "\"");
                }
            }
        }
        for (String bad : new String[] {"\"", "\"\"", "\"\"\"", "\"\"\"\"", "\"a", "a\"", "a", "\"a\"b", "b\"a\"",
            "'a'", "\" \"", "\"\n\"", "\"a b\"", "\"ab", "ab\""}) {
            notMade("block 1 name ~" + bad);
            notMade("block 1 name ~" + bad + " int 1");
        }
        notMade("block 1 attach 1 ~\"a\"");
        notMade("block 1 code 1 1 { raw ~\"a\" }");
    }

    private static void typedBytes() {
        CHECKS.about("BYTES are x and two digits 0 .. 9, a .. f for each (x alone if there are none)");
        for (int c = 33; c <= 126; c++) {
            int digit = "0123456789abcdef".indexOf(c);
            for (String hex : new String[] {"x0" + (char) c, "x" + (char) c + "0", "x000" + (char) c}) {
                if (digit >= 0) {
                    int b = hex.charAt(1) != '0' || digit == 0 ? digit * 16 : digit;
                    int[] its = hex.length() == 5 ? row(0, digit) : row(b);
                    made("block 1 attach 1 " + hex, joined(row(77, 1, 0, 0, 0, 1, 1, its.length), its));
                    made("block 1 name " + hex, joined(row(77, 1, 1, 2, its.length), its, row(0, 0, 0)));
                    made("block 1 code 1 1 { raw " + hex + " }",
                        joined(row(77, 1, 0, 0, 1, 1, 1, its.length), its, row(0)));
                } else {
                    notMade(17, "block 1 attach 1 " + hex);
                    notMade(13, "block 1 name " + hex);
                    notMade(23, "block 1 code 1 1 { raw " + hex + " }");
                }
            }
        }
        made("block 1 attach 1 x", 77, 1, 0, 0, 0, 1, 1, 0);
        made("block 1 name x", 77, 1, 1, 2, 0, 0, 0, 0);
        made("block 1 code 1 1 { raw x }", 77, 1, 0, 0, 1, 1, 1, 0, 0);
        for (String bad : new String[] {"x0", "x000", "x00000", "0", "00", "X", "X00", "xx00", "x00x", "+x00", "",
            "}"}) {
            notMade("block 1 attach 1 ~" + bad);
            notMade("block 1 name ~" + bad);
            notMade("block 1 code 1 1 { raw ~" + bad);
        }
    }

    private static void typedDistances() {
        CHECKS.about("a distance may be + or - and the number anyway (not -0)");
        made("block 1 code 1 1 { jump +0 }", 77, 1, 0, 0, 1, 1, 1, 3, 6, 0, 0, 0);
        made("block 1 code 1 1 { zero +0 pick 2 +0 -1 }", 77, 1, 0, 0, 1, 1, 1, 9, 7, 0, 0, 10, 2, 0, 0, 255, 255, 0);
        made("block 1 code 1 1 { nop jump -1 jump +3 ret }", 77, 1, 0, 0, 1, 1, 1, 8, 0, 6, 255, 255, 6, 0, 3, 9, 0);
        made("block 1 code 1 1 { @0 nop jump -1 }", 77, 1, 0, 0, 1, 1, 1, 4, 0, 6, 255, 255, 0);
        made("block 1 code 1 1 { jump +7 zero -7 }", 77, 1, 0, 0, 1, 1, 1, 6, 6, 0, 7, 7, 255, 249, 0);
        for (String bad : new String[] {"-0", "0", "1", "32767", "+00", "-00", "+01", "-01", "+", "-", "+-1", "-+1",
            "++1", "--1", "+1a", "+a", "+1-", "@", "@-1", "@+0", "@-0", "@00", "@01", "@0a", "@a", "@@0", "x00",
            "\"a\"", "nop", "}"}) {
            notMade("block 1 code 1 1 { @0 jump ~" + bad + " }");
            notMade("block 1 code 1 1 { @0 zero ~" + bad + " }");
            notMade("block 1 code 1 1 { @0 pick 1 ~" + bad + " }");
            notMade("block 1 code 1 1 { @0 pick 2 @0 ~" + bad + " }");
        }
        notMade("block 1 code 1 1 { pick 0 ~+1 }");
        notMade("block 1 code 1 1 { pick 1 +1 ~+1 }");
        notMade("block 1 code 1 1 { jump +1 ~+1 }");
    }

    private static void typedLines() {
        CHECKS.about("lines @K may stand anywhere in a code without raw, .. their K rising from 0 without a gap");
        made("block 1 code 1 1 { @0 }", 77, 1, 0, 0, 1, 1, 1, 0, 0);
        made("block 1 code 1 1 { @0 @1 @2 nop @3 @4 }", 77, 1, 0, 0, 1, 1, 1, 1, 0, 0);
        made("block 1 code 1 1 { jump @0 @0 }", 77, 1, 0, 0, 1, 1, 1, 3, 6, 0, 3, 0);
        made("block 1 code 1 1 { jump @1 @0 @1 @2 }", 77, 1, 0, 0, 1, 1, 1, 3, 6, 0, 3, 0);
        made("block 1 code 1 1 { @0 nop @1 nop @2 pick 4 @0 @1 @2 @3 @3 }",
            77, 1, 0, 0, 1, 1, 1, 12, 0, 0, 10, 4, 255, 254, 255, 255, 0, 0, 0, 10, 0);
        made("block 1 code 1 1 { push 1 @0 push 2 zero @0 }", 77, 1, 0, 0, 1, 1, 1, 7, 1, 1, 1, 2, 7, 255, 254, 0);
        made("block 1 code 1 1 { @0 } code 2 2 { nop @0 @1 zero @1 }", 77, 1, 0, 0, 2, 1, 1, 0, 2, 2, 4, 0, 7, 0, 0, 0);
        made("block 1 code 1 1 { @0 @1 @2 @3 @4 @5 @6 @7 @8 @9 nop @10 nop @11 jump @9 jump @10 jump @11 }",
            77, 1, 0, 0, 1, 1, 1, 11, 0, 0, 6, 255, 254, 6, 255, 252, 6, 255, 250, 0);
        StringBuilder most = new StringBuilder("block 1 code 1 1 {");
        for (int i = 0; i < 47; i++) {
            most.append(" @").append(i);
        }
        due("length", most.length() + 2 <= 200, true);
        made(most + " }", 77, 1, 0, 0, 1, 1, 1, 0, 0);
        for (String bad : new String[] {"~@1", "@0 ~@0", "@0 ~@2", "@0 @1 ~@1", "@0 @1 ~@0", "@0 @1 ~@3", "nop ~@1",
            "@0 nop ~@0", "~@", "~@-0", "~@+0", "~@00", "@0 ~@01", "~@0a", "~@a", "~@x0", "~@4294967296",
            "~@18446744073709551616", "~@-1", "~@0@1", "@0 ~@256", "jump @0 ~@1", "@0 jump @1 ~@2"}) {
            notMade("block 1 code 1 1 { " + bad + " }");
        }
        notMade("block 1 code 1 1 { @0 } code 1 1 { ~@1 }");
        notMade("block 1 ~@0");
        notMade("block 1 code 1 1 ~@0 { }");
        notMade("block 1 code 1 1 { } ~@0");
        notMade("block 1 code 1 1 { push ~@0 1 }");
    }

    private static void typedRaw() {
        CHECKS.about("raw may stand in a code that is clear, too; @K .. in a code without raw; In another code "
            + "one line: raw BYTES");
        made("block 1 code 1 1 { raw x }", 77, 1, 0, 0, 1, 1, 1, 0, 0);
        made("block 1 code 1 1 { raw x00 }", 77, 1, 0, 0, 1, 1, 1, 1, 0, 0);
        made("block 1 code 1 1 { raw x060000 }", 77, 1, 0, 0, 1, 1, 1, 3, 6, 0, 0, 0);
        made("block 1 code 1 1 { raw x0b }", 77, 1, 0, 0, 1, 1, 1, 1, 11, 0);
        made("block 1 code 1 1 { raw x0600 } code 1 1 { raw x0101 } code 1 1 { @0 nop }",
            77, 1, 0, 0, 3, 1, 1, 2, 6, 0, 1, 1, 2, 1, 1, 1, 1, 1, 0, 0);
        for (String bad : new String[] {"@0 ~raw x00", "nop ~raw x00", "raw x00 ~@0", "raw x00 ~nop",
            "raw x00 ~raw x00", "raw x ~raw x", "raw x00 ~x00", "raw ~}", "raw ~nop", "raw ~00", "~x00", "~raws x00",
            "~Raw x00", "raw x ~@0", "raw x ~nop"}) {
            notMade("block 1 code 1 1 { " + bad + " }");
        }
        Loom x = new Loom();
        x.typeAll("block 1 code 1 1 { raw x060000 } code 1 1 { raw x0b }");
        due("make()", x.make(), 16);
        due("clear(0)", x.clear(0), 1);
        due("clear(1)", x.clear(1), 0);
        due("text", x.text(), "block 1\ncode 1 1 {\n@0\njump @0\n}\ncode 1 1 {\nraw x0b\n}\n");
    }

    /** Where a number may stand: the text and the bytes on both sides of it, and which numbers may. */
    private record Spot(String before, String after, int[] rowBefore, int[] rowAfter, String least, String most,
        int width) {
        boolean isForDistance() {
            return least.equals("-32768");
        }

        private String word(BigInteger value) {
            return isForDistance() && value.signum() >= 0 ? "+" + value : "" + value;
        }

        void may(BigInteger value) {
            made(before + word(value) + after, joined(rowBefore, bytesOf(value.longValue(), width), rowAfter));
        }

        void mayNot(BigInteger value) {
            mayNot(word(value));
        }

        void mayNot(String word) {
            notMade(before.length(), before + word + after);
        }
    }

    private static final Spot[] SPOTS = {
        new Spot("block ", "", row(77), row(0, 0, 0, 0), "0", "255", 1),
        new Spot("block 1 pair ", " 7", row(77, 1, 1, 3), row(7, 0, 0, 0), "0", "255", 1),
        new Spot("block 1 pair 7 ", "", row(77, 1, 1, 3, 7), row(0, 0, 0), "0", "255", 1),
        new Spot("block 1 field ", " 7", row(77, 1, 0, 1), row(7, 0, 0), "0", "255", 1),
        new Spot("block 1 field 7 ", "", row(77, 1, 0, 1, 7), row(0, 0), "0", "255", 1),
        new Spot("block 1 code ", " 7 { }", row(77, 1, 0, 0, 1), row(7, 0, 0), "0", "255", 1),
        new Spot("block 1 code 7 ", " { }", row(77, 1, 0, 0, 1, 7), row(0, 0), "0", "255", 1),
        new Spot("block 1 attach ", " x", row(77, 1, 0, 0, 0, 1), row(0), "0", "255", 1),
        new Spot("block 1 code 7 7 { load ", " }", row(77, 1, 0, 0, 1, 7, 7, 2, 2), row(0), "0", "255", 1),
        new Spot("block 1 code 7 7 { call ", " }", row(77, 1, 0, 0, 1, 7, 7, 2, 8), row(0), "0", "255", 1),
        new Spot("block 1 code 7 7 { push ", " }", row(77, 1, 0, 0, 1, 7, 7, 2, 1), row(0), "-128", "127", 1),
        new Spot("block 1 int ", "", row(77, 1, 1, 1), row(0, 0, 0), "-2147483648", "2147483647", 4),
        new Spot("block 1 long ", "", row(77, 1, 1, 4), row(0, 0, 0), "-9223372036854775808", "9223372036854775807", 8),
        new Spot("block 1 code 7 7 { jump ", " }", row(77, 1, 0, 0, 1, 7, 7, 3, 6), row(0), "-32768", "32767", 2),
        new Spot("block 1 code 7 7 { zero ", " }", row(77, 1, 0, 0, 1, 7, 7, 3, 7), row(0), "-32768", "32767", 2),
        new Spot("block 1 code 7 7 { pick 2 ", " +1 }", row(77, 1, 0, 0, 1, 7, 7, 6, 10, 2), row(0, 1, 0),
            "-32768", "32767", 2),
        new Spot("block 1 code 7 7 { pick 2 +1 ", " }", row(77, 1, 0, 0, 1, 7, 7, 6, 10, 2, 0, 1), row(0),
            "-32768", "32767", 2)};

    private static void numberRanges() {
        CHECKS.about("The numbers may be: .. 0 .. 255, push -128 .. 127, an int and a long any that is one, a distance "
            + "-32768 .. 32767");
        for (Spot spot : SPOTS) {
            BigInteger least = new BigInteger(spot.least);
            BigInteger most = new BigInteger(spot.most);
            for (int more : new int[] {0, 1, 2, 9, 10, 99, 100}) {
                spot.may(least.add(BigInteger.valueOf(more)));
                spot.may(most.subtract(BigInteger.valueOf(more)));
                spot.may(BigInteger.valueOf(more));
                spot.mayNot(least.subtract(BigInteger.valueOf(more + 1)));
                spot.mayNot(most.add(BigInteger.valueOf(more + 1)));
            }
            // Numbers that some bits of make a number that may stand.
            for (int bits : new int[] {8, 16, 31, 32, 63, 64, 65, 128, 160}) {
                for (int more = -1; more <= 8; more++) {
                    BigInteger value = BigInteger.ONE.shiftLeft(bits).add(BigInteger.valueOf(more));
                    for (BigInteger wide : new BigInteger[] {value, value.negate()}) {
                        if (wide.compareTo(least) < 0 || wide.compareTo(most) > 0) {
                            spot.mayNot(wide);
                        } else {
                            spot.may(wide);
                        }
                    }
                }
            }
            for (int digits = 3; digits <= 40; digits++) {
                BigInteger value = BigInteger.TEN.pow(digits);
                if (value.compareTo(most) > 0) {
                    spot.mayNot(value);
                }
                if (value.negate().compareTo(least) < 0) {
                    spot.mayNot(value.negate());
                }
            }
        }
        pickNumbers();
    }

    private static void pickNumbers() {
        String before = "block 1 code 7 7 { pick ";
        made(before + "0 }", 77, 1, 0, 0, 1, 7, 7, 2, 10, 0, 0);
        made(before + "1 +1 }", 77, 1, 0, 0, 1, 7, 7, 4, 10, 1, 0, 1, 0);
        made(before + "54" + " +1".repeat(54) + " }",
            joined(row(77, 1, 0, 0, 1, 7, 7, 110, 10, 54), times(54, 0, 1), row(0)));
        for (String many : new String[] {"1", "54", "55", "127", "128", "254", "255"}) {
            notMade(before + many + " ~");
            notMade(before + many + " ~}");
        }
        for (String many : new String[] {"55", "128", "255"}) {
            notMade(before + many + " +1".repeat(54) + " ~+1");
            notMade(before + many + " +1".repeat(54) + " ~");
        }
        for (String many : new String[] {"256", "257", "-1", "-0", "00", "01", "+0", "+1", "65536", "4294967296",
            "4294967297", "18446744073709551616", "18446744073709551617", "@0", "x", "}", ""}) {
            notMade(before + "~" + many);
        }
    }

    private static void numberForms() {
        CHECKS.about("Numbers are in base 10, a - before those below 0, no needless 0");
        String[] never = {"-", "+", "--1", "++1", "+-1", "-+1", "-0", "-00", "00", "01", "007", "-01", "+00", "+01",
            "1a", "a", "a1", "1.", "1.0", ".1", "1,0", "0x1", "1e1", "1-", "1+", "1:", "1/", ":", "/", "x1", "x",
            "x01", "@", "\"1\"", "{", "}", "?"};
        for (Spot spot : SPOTS) {
            for (String word : never) {
                spot.mayNot(word);
            }
            for (String number : new String[] {"0", "1", "7", "127"}) {
                spot.mayNot(spot.isForDistance() ? number : "+" + number);
            }
            if (!spot.isForDistance()) {
                spot.mayNot("@0");
            }
            if (spot.least.equals("0")) {
                spot.mayNot("-1");
                spot.mayNot("-255");
            }
        }
    }

    // ---- terms: where a text is faulty

    private static void firstWrongWord() {
        CHECKS.about("A text is faulty at the first character of the first word that may not stand there");
        String[] words = words();
        for (int i = 0; i <= words.length; i++) {
            String before = String.join(" ", Arrays.copyOf(words, i));
            for (String gap : new String[] {i == 0 ? "" : " ", "\n ", "\n\n"}) {
                if (i < words.length) {
                    String after = String.join(" ", Arrays.copyOfRange(words, i + 1, words.length));
                    notMade(before + gap + "~? " + after);
                    notMade(before + gap + "~" + words[i] + "? " + after);
                    notMade(before + gap + "~?" + words[i] + " " + after);
                    notMade(before + gap + "~? ? " + after);
                }
                notMade(before + gap + "~? " + String.join(" ", Arrays.copyOfRange(words, i, words.length)));
            }
        }
        String[] items = {"int 1", "field 1 2", "code 1 2 { }", "attach 1 x"};
        for (String entry : new String[] {"name x", "pair 1 2", "long 1", items[0], items[1], items[2], items[3]}) {
            for (int part = 0; part < 4; part++) {
                boolean may = part <= Math.max(0, Arrays.asList(items).indexOf(entry));
                Loom x = withOldBlock();
                String text = "block 1 " + items[part] + " ";
                due("type", x.typeAll(text + entry), true);
                due("make() of " + text + entry, x.make() > 0, may);
                if (!may) {
                    notMade(text + "~" + entry);
                    notMade(text + "~" + entry + " ?");
                }
            }
        }
        for (String word : new String[] {"block", "Block", "blocks", "bloc", "77", "{", "}", "raw", "nop", "@0", "x",
            "\"a\"", ";", "Int", "ints", "in", "Field", "fields", "fiel", "codes", "cod", "attac", "attachs", "names",
            "nam", "pairs", "longs"}) {
            notMade("block 1 ~" + word);
            notMade("block 1 ~" + word + " 1 x { }");
            notMade("block 1 code 1 1 { } ~" + word + " 1 x");
            if (!word.equals("block")) {
                notMade("~" + word + " 1");
            }
        }
        for (String word : new String[] {"{", "int", "name", "pair", "long", "field", "code", "attach", "block", "x",
            "1", "-1", "+1", "Nop", "nops", "no", "nop}", "{nop", "pus", "loads", "ad", "subs", "du", "jumps",
            "zeros", "cal", "rets", "picks", "ra"}) {
            notMade("block 1 code 1 1 { ~" + word + " 1 }");
            notMade("block 1 code 1 1 { nop ~" + word + " 1 }");
        }
        for (String word : new String[] {"}", "{{", "{}", "nop", "raw", "@0", "(", "1", "attach"}) {
            notMade("block 1 code 1 1 ~" + word + " }");
        }
    }

    private static void endsTooEarly() {
        CHECKS.about("or, if it ends too early, at its length");
        notMade("~");
        notMade(" ~");
        notMade("\n~");
        notMade(" ".repeat(200) + "~");
        StringBuilder text = new StringBuilder("block");
        notMade(text + "~");
        notMade(text + " ~");
        notMade(text + "\n\n~");
        text.append(" 1");
        String[] words = WORDS.split(" ");
        for (int i = 0; i < words.length; i++) {
            if (words[i].equals("|")) {
                Loom x = withOldBlock();
                due("type", x.typeAll(" ".repeat(200 - text.length()) + text), true);
                due("make() of " + text, x.make() > 0, true);
                continue;
            }
            text.append(' ').append(words[i], 0, words[i].lastIndexOf(':'));
            if (!words[i + 1].equals("|")) {
                notMade(text + "~");
                notMade(text + " ~");
                notMade(text + "\n \n~");
                notMade(" ".repeat(200 - text.length()) + text + "~");
                notMade(text + " ".repeat(200 - text.length()) + "~");
            }
        }
        for (String early : new String[] {"", "block", "block 1 int", "block 1 name", "block 1 long", "block 1 pair 1",
            "block 1 field 1", "block 1 attach 1", "block 1 code 1 1", "block 1 code 1 1 {", "block 1 code 1 1 { @0",
            "block 1 code 1 1 { raw", "block 1 code 1 1 { jump", "block 1 code 1 1 { push",
            "block 1 code 1 1 { pick"}) {
            notMade(early + "~");
            notMade(" ".repeat(200 - early.length()) + early + "~");
        }
        notMade("block 1 code 1 1 { jump @5~");
        notMade("block 1 code 1 1 { jump @5 ~");
        notMade("block 1 code 1 1 { raw x~");
        notMade("block 1 code 1 1 { } code 1 1 {~");
        notMade("block 1 code 1 1 { nop\n~");
    }

    private static void linesThatAreNone() {
        CHECKS.about("an @K that names no line of its code: at the code's }");
        for (String code : new String[] {"jump @0", "zero @0", "pick 1 @0", "jump @1 @0", "@0 jump @1",
            "@0 jump @0 jump @1 nop", "@0 pick 3 @0 @1 @0", "@0 @1 jump @2", "jump @2 @0 @1", "jump @10 @0 @1",
            "@0 jump @4294967296", "@0 jump @256", "@0 jump @65536", "@0 jump @2147483648",
            "@0 jump @18446744073709551616"}) {
            notMade("block 1 code 1 1 { " + code + " ~}");
            notMade("block 1 code 1 1 { " + code + "\n\n~} ?");
            notMade("block 1 code 1 1 { " + code + " ~} code 1 1 { @0 @1 @2 }");
            notMade("block 1 code 1 1 { @0 @1 @2 } code 1 1 { " + code + " ~} attach 1 x");
            notMade("block 1 code 1 1 { " + code + " ~? }");
            notMade("block 1 code 1 1 { " + code + " push ~} }");
            notMade("block 1 code 1 1 { " + code + " ~");
        }
        made("block 1 code 1 1 { jump @0 @0 }", 77, 1, 0, 0, 1, 1, 1, 3, 6, 0, 3, 0);
        made("block 1 code 1 1 { jump @1 @0 @1 nop }", 77, 1, 0, 0, 1, 1, 1, 4, 6, 0, 3, 0, 0);
    }

    /** Words with the bytes that each brings, behind a name that leaves room for some, none or all of these. */
    private static void roomFor(String words) {
        int all = Arrays.stream(words.split(" ")).mapToInt(word -> Integer.parseInt(word.split(":")[1])).sum();
        for (int room = 0; room <= all + 1; room++) {
            StringBuilder text = new StringBuilder("block 1 name \"" + "a".repeat(112 - room) + "\"");
            int left = room;
            int faultyAt = -1;
            for (String word : words.split(" ")) {
                text.append(' ');
                left -= Integer.parseInt(word.split(":")[1]);
                faultyAt = left < 0 && faultyAt < 0 ? text.length() : faultyAt;
                text.append(word.split(":")[0]);
            }
            if (faultyAt >= 0) {
                notMade(faultyAt, text.toString());
                continue;
            }
            Loom x = withOldBlock();
            due("type of " + text, x.typeAll(text.toString()), true);
            due("make() of " + text, x.make(), 120 - left);
            due("size() of " + text, x.size(), 120 - left);
            due("exact() of " + text, x.exact(), true);
        }
    }

    private static void room() {
        CHECKS.about("The word with which the block would have more than 120 bytes may not stand there either");
        roomFor("int:1 -2:4 int:1 7:4");
        roomFor("long:1 -2:8 long:1 0:8");
        roomFor("pair:1 1:1 2:1 pair:1 255:1 0:1");
        roomFor("name:1 \"abc\":4 name:1 \"d\":2");
        roomFor("name:1 x:1 name:1 x01:2 name:1 x010203:4");
        roomFor("field:0 1:1 2:1 field:0 3:1 4:1");
        roomFor("code:0 1:1 2:1 {:1 }:0 code:0 3:1 4:1 {:1 }:0");
        roomFor("code:0 1:1 2:1 {:1 nop:1 add:1 sub:1 dup:1 ret:1 }:0");
        roomFor("code:0 1:1 2:1 {:1 push:1 -1:1 load:1 1:1 call:1 255:1 }:0");
        roomFor("code:0 1:1 2:1 {:1 jump:1 +1:2 zero:1 -1:2 jump:1 @0:2 @0:0 }:0");
        roomFor("code:0 1:1 2:1 {:1 @0:0 zero:1 @0:2 @1:0 zero:1 @1:2 @2:0 }:0");
        roomFor("code:0 1:1 2:1 {:1 pick:1 0:1 pick:1 1:1 @0:2 @0:0 pick:1 2:1 +9:2 -9:2 }:0");
        roomFor("code:0 1:1 2:1 {:1 raw:0 x:0 }:0 code:0 1:1 2:1 {:1 raw:0 x010203:3 }:0");
        roomFor("attach:0 1:1 x:1 attach:0 1:1 x01:2 attach:0 1:1 x010203:4");
        roomFor("pair:1 1:1 2:1 field:0 1:1 2:1 code:0 1:1 2:1 {:1 ret:1 }:0 attach:0 1:1 x01:2");
        roomFor(WORDS.substring(0, WORDS.indexOf(" | code:0")).replace(" |", ""));
        made("block 1 name \"" + "a".repeat(112) + "\"", joined(row(77, 1, 1, 2, 112), times(112, 97), row(0, 0, 0)));
        notMade("block 1 name ~\"" + "a".repeat(113) + "\"");
        notMade("block 1 name ~\"" + "a".repeat(185) + "\"");
        notMade("block 1 name ~x" + "61".repeat(90) + "0");
    }

    private static void roomUnneeded() {
        CHECKS.about("field, code, attach, } and @K lines (bring) none");
        String full = "block 1 name \"" + "a".repeat(108) + "\"";
        int[] fullRow = joined(row(77, 1, 1, 2, 108), times(108, 97));
        made(full + " code 1 2 { ret @0 @1 } ", joined(fullRow, row(0, 1, 1, 2, 1, 9, 0)));
        made(full + " code 1 2 { raw x09 }", joined(fullRow, row(0, 1, 1, 2, 1, 9, 0)));
        for (String more : new String[] {"field", "attach", "code"}) {
            notMade(full + " field 1 2 field 3 4 " + more + " ~5 6");
            notMade(full + " field 1 2 field 3 4 " + more + " ~");
            notMade(full + " field 1 2 field 3 4 " + more + " ~?");
        }
        for (String more : new String[] {"int", "name", "pair", "long"}) {
            notMade("block 1 name \"" + "a".repeat(112) + "\" ~" + more);
            notMade("block 1 name \"" + "a".repeat(112) + "\" ~" + more + " 1 2");
        }
        for (String more : new String[] {"nop", "push", "load", "add", "sub", "dup", "jump", "zero", "call", "ret",
            "pick"}) {
            notMade(full + " code 1 2 { ret @0 ~" + more);
            notMade(full + " code 1 2 { ret @0 ~" + more + " 1 }");
        }
    }
}
