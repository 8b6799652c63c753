import java.lang.reflect.Constructor;
import java.lang.reflect.Method;
import java.lang.reflect.Modifier;
import java.util.TreeSet;

/** Checks each promise of the document: ordinary inputs, the edges it names, and wrong inputs. */
public final class PromiseTest {
    private static final Checks CHECKS = new Checks();

    public static void main(String[] args) {
        theFace();
        newObject();
        put();
        take();
        takeFaults();
        type();
        makeItems();
        makeNumbers();
        makeNames();
        makeBytes();
        makeCodes();
        makeLabels();
        makeOrderAndEnds();
        makeRoom();
        makeState();
        sizeAndByteAt();
        lengthAndAt();
        textOfCodes();
        count();
        clear();
        exact();
        oddArguments();
        theExampleOfTheReadme();
        CHECKS.end();
    }

    // ---- what the checks are made of

    private static void due(String what, Object got, Object want) {
        CHECKS.due(what, got, want);
    }

    private static Loom withBytes(Loom x, int... bytes) {
        due("put of " + Loom.joined(bytes), x.putAll(bytes), true);
        return x;
    }

    private static Loom withText(Loom x, String text) {
        due("type of " + text, x.typeAll(text), true);
        return x;
    }

    private static void textIs(String text, int... bytes) {
        Loom x = withBytes(new Loom(), bytes);
        due("take() of " + Loom.joined(bytes), x.take(), text.length());
        due("length() of " + Loom.joined(bytes), x.length(), text.length());
        due("text of " + Loom.joined(bytes), x.text(), text);
        due("bytes of " + Loom.joined(bytes), x.bytes(), Loom.joined(bytes));
        due("exact() of " + Loom.joined(bytes), x.exact(), true);
    }

    private static void bytesFaulty(int at, int... bytes) {
        Loom x = withText(new Loom(), "block 9 field 8 7");
        x.make();
        withBytes(x, bytes);
        due("take() of " + Loom.joined(bytes), x.take(), -1 - at);
        due("the block that stays", x.bytes(), "77 9 0 1 8 7 0 0");
        due("the text that stays", x.text(), "block 9\nfield 8 7\n");
        due("none wait: take()", x.take(), -1);
    }

    private static void made(String text, int... bytes) {
        Loom x = withText(new Loom(), text);
        due("make() of " + text, x.make(), bytes.length);
        due("bytes of " + text, x.bytes(), Loom.joined(bytes));
        due("exact() of " + text, x.exact(), true);
        due("nothing is typed: make()", x.make(), -1);
    }

    /** The text is faulty where the word after the mark ~ begins (the mark is not in it). */
    private static void faulty(String marked) {
        int at = marked.indexOf('~');
        String text = marked.substring(0, at) + marked.substring(at + 1);
        Loom x = withText(new Loom(), "block 9 field 8 7");
        x.make();
        withText(x, text);
        due("make() of " + marked, x.make(), -1 - at);
        due("the block that stays", x.bytes(), "77 9 0 1 8 7 0 0");
        due("the text that stays", x.text(), "block 9\nfield 8 7\n");
        due("nothing is typed: make()", x.make(), -1);
    }

    private static String times(int n, String text) {
        return text.repeat(n);
    }

    /** A block's first two bytes and these, with zeros behind up to a length. */
    private static int[] filled(int length, int... first) {
        int[] all = new int[length];
        System.arraycopy(first, 0, all, 0, first.length);
        return all;
    }

    // ---- the face and promise 1

    private static void theFace() {
        CHECKS.about("face");
        due("final", Modifier.isFinal(ExactLoom.class.getModifiers()), true);
        TreeSet<String> seen = new TreeSet<>();
        for (Method m : ExactLoom.class.getDeclaredMethods()) {
            if (!Modifier.isPrivate(m.getModifiers())) {
                seen.add(m.toString());
            }
        }
        for (Constructor<?> c : ExactLoom.class.getDeclaredConstructors()) {
            seen.add(c.toString());
        }
        TreeSet<String> want = new TreeSet<>();
        want.add("public ExactLoom()");
        for (String face : new String[] {"boolean put(int,int)", "int take()", "boolean type(int,int)", "int make()",
            "int size()", "int byteAt(int)", "int length()", "int at(int)", "int count(int)", "int clear(int)",
            "boolean exact()"}) {
            want.add("public " + face.replace(" ", " ExactLoom."));
        }
        due("members", seen, want);
    }

    private static void newObject() {
        CHECKS.about("promise 1");
        Loom x = new Loom();
        due("bytes", x.bytes(), "77 0 0 0 0 0");
        due("text", x.text(), "block 0\n");
        due("exact()", x.exact(), true);
        due("no bytes: take()", x.take(), -1);
        due("nothing typed: make()", x.make(), -1);
        Loom other = new Loom();
        withBytes(other, 77, 5, 0, 0, 0, 0).take();
        due("one object's block is not another's", x.bytes(), "77 0 0 0 0 0");
    }

    // ---- promises 2 and 3

    private static void put() {
        CHECKS.about("promise 2");
        Loom x = new Loom();
        due("put(.., 4)", x.put(0x4d000001, 4), true);
        due("put(.., 1)", x.put(0x77777707, 1), true);
        due("put(.., 2)", x.put(0x7777fe00, 2), true);
        due("put(.., 1)", x.put(-256, 1), true);
        due("take()", x.take(), "block 0\nfield 7 254\n".length());
        due("bytes", x.bytes(), "77 0 0 1 7 254 0 0");
        due("put(.., 3)", x.put(0x774dff00, 3), true);
        due("put(.., 3)", x.put(0, 3), true);
        due("take()", x.take(), 10);
        due("bytes", x.bytes(), "77 255 0 0 0 0");
        for (int n : new int[] {0, -1, 5, 8, Integer.MAX_VALUE, Integer.MIN_VALUE}) {
            due("put(0, " + n + ")", x.put(0, n), false);
        }
        due("nothing was put: take()", x.take(), -1);
        for (int i = 0; i < 30; i++) {
            due("put of 4", x.put(0x4d4d4d4d, 4), true);
        }
        due("put up to 123", x.put(0x4d4d4d, 3), true);
        due("put up to 125", x.put(0x4d4d, 2), false);
        due("put up to 127", x.put(0x4d4d4d4d, 4), false);
        due("put up to 124", x.put(0x4d, 1), true);
        due("put up to 125", x.put(0x4d, 1), false);
        due("take of what is too long", x.take() < 0, true);
        due("put after it", x.put(0x4d000000, 4), true);
        due("put after it", x.put(0, 2), true);
        due("take after it", x.take(), 8);
        withBytes(x, 77, 1, 0, 0);
        due("put refused", x.put(0, 5), false);
        withBytes(x, 0, 0);
        due("a refused put changes nothing", x.take(), 8);
        due("bytes", x.bytes(), "77 1 0 0 0 0");
    }

    private static void take() {
        CHECKS.about("promise 3");
        textIs("block 0\n", 77, 0, 0, 0, 0, 0);
        textIs("block 255\n", 77, 255, 0, 0, 0, 0);
        textIs("block 1\nint 0\nint -1\nint 2147483647\nint -2147483648\nint 16909060\n",
            77, 1, 5, 1, 0, 0, 0, 0, 1, 255, 255, 255, 255, 1, 127, 255, 255, 255, 1, 128, 0, 0, 0, 1, 1, 2, 3, 4,
            0, 0, 0);
        textIs("block 1\nlong 0\nlong -1\nlong 9223372036854775807\nlong -9223372036854775808\n"
            + "long 72623859790382856\nlong -1000000000000000000\n",
            77, 1, 6, 4, 0, 0, 0, 0, 0, 0, 0, 0, 4, 255, 255, 255, 255, 255, 255, 255, 255,
            4, 127, 255, 255, 255, 255, 255, 255, 255, 4, 128, 0, 0, 0, 0, 0, 0, 0, 4, 1, 2, 3, 4, 5, 6, 7, 8,
            4, 242, 31, 73, 76, 88, 156, 0, 0, 0, 0, 0);
        textIs("block 1\nname x\nname \"a\"\nname \"!~\"\nname x20\nname x7f\nname x22\nname x6122\nname x0aff\n"
            + "name \"x00\"\n",
            77, 1, 9, 2, 0, 2, 1, 97, 2, 2, 33, 126, 2, 1, 32, 2, 1, 127, 2, 1, 34, 2, 2, 97, 34, 2, 2, 10, 255,
            2, 3, 120, 48, 48, 0, 0, 0);
        textIs("block 1\npair 0 255\npair 10 9\n", 77, 1, 2, 3, 0, 255, 3, 10, 9, 0, 0, 0);
        textIs("block 1\nfield 0 255\nfield 100 7\n", 77, 1, 0, 2, 0, 255, 100, 7, 0, 0);
        textIs("block 1\nattach 0 x\nattach 255 x00ff9a\n", 77, 1, 0, 0, 0, 2, 0, 0, 255, 3, 0, 255, 154);
        textIs("block 2\nint 1\nfield 1 2\ncode 3 4 {\n}\nattach 5 x06\n",
            77, 2, 1, 1, 0, 0, 0, 1, 1, 1, 2, 1, 3, 4, 0, 1, 5, 1, 6);
        StringBuilder fields = new StringBuilder("block 255\n");
        int[] longest = filled(120, 77, 255, 0, 57);
        for (int i = 0; i < 57; i++) {
            longest[4 + 2 * i] = 255;
            longest[5 + 2 * i] = 255;
            fields.append("field 255 255\n");
        }
        textIs(fields.toString(), longest);
        textIs("block 0\nattach 0 x" + times(112, "00") + "\n", filled(120, 77, 0, 0, 0, 0, 1, 0, 112));
    }

    private static void takeFaults() {
        CHECKS.about("promise 3");
        bytesFaulty(0);
        bytesFaulty(0, 78);
        bytesFaulty(0, 0, 0, 0, 0, 0, 0);
        bytesFaulty(1, 77);
        bytesFaulty(2, 77, 0);
        bytesFaulty(3, 77, 0, 0);
        bytesFaulty(4, 77, 0, 0, 0);
        bytesFaulty(5, 77, 0, 0, 0, 0);
        bytesFaulty(6, 77, 0, 0, 0, 0, 0, 0);
        bytesFaulty(6, 77, 0, 0, 0, 0, 0, 77, 0, 0, 0, 0, 0);
        bytesFaulty(3, 77, 0, 1);
        bytesFaulty(3, 77, 0, 1, 0);
        bytesFaulty(3, 77, 0, 1, 5, 1, 2, 3, 4, 0, 0, 0);
        bytesFaulty(3, 77, 0, 1, 255);
        bytesFaulty(8, 77, 0, 2, 1, 0, 0, 0, 0, 0, 0, 0);
        bytesFaulty(6, 77, 0, 2, 3, 1, 2);
        bytesFaulty(4, 77, 0, 1, 1);
        bytesFaulty(7, 77, 0, 1, 1, 0, 0, 0);
        bytesFaulty(8, 77, 0, 1, 1, 0, 0, 0, 0);
        bytesFaulty(4, 77, 0, 1, 2);
        bytesFaulty(5, 77, 0, 1, 2, 1);
        bytesFaulty(6, 77, 0, 1, 2, 255, 0);
        bytesFaulty(5, 77, 0, 1, 2, 0);
        bytesFaulty(5, 77, 0, 1, 3, 0);
        bytesFaulty(11, 77, 0, 1, 4, 0, 0, 0, 0, 0, 0, 0);
        bytesFaulty(5, 77, 0, 0, 1, 0);
        bytesFaulty(6, 77, 0, 0, 1, 0, 0);
        bytesFaulty(7, 77, 0, 0, 0, 1, 0, 0);
        bytesFaulty(8, 77, 0, 0, 0, 1, 0, 0, 0);
        bytesFaulty(9, 77, 0, 0, 0, 1, 0, 0, 2, 0);
        bytesFaulty(7, 77, 0, 0, 0, 0, 1, 0);
        bytesFaulty(8, 77, 0, 0, 0, 0, 1, 0, 1);
        bytesFaulty(9, 77, 0, 0, 0, 0, 1, 0, 1, 0, 0);
        bytesFaulty(120, filled(120, 77, 0, 0, 0, 0, 1, 0, 113));
        bytesFaulty(119, filled(120, 77, 0, 0, 0, 0, 1, 0, 111));
        bytesFaulty(120, filled(121, 77, 0, 0, 0, 0, 1, 0, 112));
        bytesFaulty(120, filled(121, 77, 0, 0, 0, 0, 1, 0, 113));
        bytesFaulty(120, filled(124, 77, 0, 0, 0, 0, 1, 0, 116));
        bytesFaulty(8, filled(124, 77, 0, 0, 0, 0, 1, 0, 0));
        bytesFaulty(0, filled(124));
        Loom x = withBytes(new Loom(), 77, 0, 1, 3, 1, 2, 0, 0, 0);
        withText(x, "block 4").take();
        due("what is typed stays: make()", x.make(), 6);
    }

    // ---- promises 4 and 5

    private static void type() {
        CHECKS.about("promise 4");
        Loom x = new Loom();
        due("type(.., 4)", x.type(0x626c6f63, 4), true);
        due("type(.., 1)", x.type(0x0707076b, 1), true);
        due("type(.., 2)", x.type(0xff7f2033, 2), true);
        due("type(.., 3)", x.type(0x00200a20, 3), true);
        due("make()", x.make(), 6);
        due("bytes", x.bytes(), "77 3 0 0 0 0");
        for (int n : new int[] {0, -1, 5, Integer.MAX_VALUE, Integer.MIN_VALUE}) {
            due("type(.., " + n + ")", x.type(0x20202020, n), false);
        }
        for (int c = 0; c < 256; c++) {
            boolean good = c == 10 || c >= 32 && c <= 126;
            due("type(" + c + ", 1)", new Loom().type(c, 1), good);
            for (int place = 0; place < 4; place++) {
                int word = 0x20202020 ^ ((0x20 ^ c) << (8 * place));
                due("type(" + word + ", 4)", new Loom().type(word, 4), good);
                due("type(" + word + ", " + place + ")", new Loom().type(word, place), place != 0);
            }
        }
        withText(x, "block 5");
        due("a wrong character", x.type(0x20203109, 4), false);
        due("make() after a refusal", x.make(), 6);
        due("bytes", x.bytes(), "77 5 0 0 0 0");
        withText(x, "block 6" + times(190, " "));
        due("type up to 201", x.type(0x20202020, 4), false);
        due("type up to 200", x.type(0x202020, 3), true);
        due("type up to 201", x.type(0x20, 1), false);
        due("make() of 200", x.make(), 6);
        due("type after it", x.type(0x20, 1), true);
        due("make()", x.make(), -2);
    }

    private static void makeItems() {
        CHECKS.about("promise 5");
        made("block 0", 77, 0, 0, 0, 0, 0);
        made("\n \nblock\n\n255\n ", 77, 255, 0, 0, 0, 0);
        made("block 1 int 258 int -2", 77, 1, 2, 1, 0, 0, 1, 2, 1, 255, 255, 255, 254, 0, 0, 0);
        made("block 1 long 258 long -2",
            77, 1, 2, 4, 0, 0, 0, 0, 0, 0, 1, 2, 4, 255, 255, 255, 255, 255, 255, 255, 254, 0, 0, 0);
        made("block 1 pair 0 255", 77, 1, 1, 3, 0, 255, 0, 0, 0);
        made("block 1 name \"ab\" name x6162 name x", 77, 1, 3, 2, 2, 97, 98, 2, 2, 97, 98, 2, 0, 0, 0, 0);
        made("block 1 field 255 0 field 0 255", 77, 1, 0, 2, 255, 0, 0, 255, 0, 0);
        made("block 1 attach 255 x attach 0 x00ff", 77, 1, 0, 0, 0, 2, 255, 0, 0, 2, 0, 255);
        made("block 1 code 255 0 { } code 0 255 { nop }", 77, 1, 0, 0, 2, 255, 0, 0, 0, 255, 1, 0, 0);
        made("block 1 pair 1 2 field 3 4 code 5 6 { ret } attach 7 x08",
            77, 1, 1, 3, 1, 2, 1, 3, 4, 1, 5, 6, 1, 9, 1, 7, 1, 8);
        made("block 1 pair 1 2 attach 7 x08", 77, 1, 1, 3, 1, 2, 0, 0, 1, 7, 1, 8);
        made("block\n1\npair\n1\n2\ncode\n1\n2\n{\n}\n", 77, 1, 1, 3, 1, 2, 0, 1, 1, 2, 0, 0);
    }

    private static void makeNumbers() {
        CHECKS.about("promise 5");
        made("block 1 int 2147483647 int -2147483648", 77, 1, 2, 1, 127, 255, 255, 255, 1, 128, 0, 0, 0, 0, 0, 0);
        made("block 1 long 9223372036854775807 long -9223372036854775808",
            77, 1, 2, 4, 127, 255, 255, 255, 255, 255, 255, 255, 4, 128, 0, 0, 0, 0, 0, 0, 0, 0, 0, 0);
        made("block 1 code 0 0 { push -128 push 127 push 0 load 0 load 255 call 255 pick 0 }",
            77, 1, 0, 0, 1, 0, 0, 14, 1, 128, 1, 127, 1, 0, 2, 0, 2, 255, 8, 255, 10, 0, 0);
        made("block 1 code 0 0 { jump +32767 zero -32768 jump -1 zero +0 }",
            77, 1, 0, 0, 1, 0, 0, 12, 6, 127, 255, 7, 128, 0, 6, 255, 255, 7, 0, 0, 0);
        for (String bad : new String[] {"256", "-1", "-0", "00", "01", "+1", "1x", "1:", "1/", "", "x1", "0x1", "1.",
            "--1", "-", "4294967296", "18446744073709551616", "99999999999999999999999999", "@0", "\"1\"", "a"}) {
            faulty("block ~" + bad);
            faulty("block 1 pair ~" + bad);
            faulty("block 1 pair 0 ~" + bad);
            faulty("block 1 field ~" + bad);
            faulty("block 1 field 0 ~" + bad);
            faulty("block 1 attach ~" + bad);
            faulty("block 1 code ~" + bad);
            faulty("block 1 code 0 ~" + bad);
            faulty("block 1 code 0 0 { load ~" + bad);
            faulty("block 1 code 0 0 { call ~" + bad);
            faulty("block 1 code 0 0 { pick ~" + bad);
        }
        for (String bad : new String[] {"2147483648", "-2147483649", "4294967295", "-0", "00", "+1",
            "9223372036854775808", "18446744073709551617", "-18446744073709551617", "-01"}) {
            faulty("block 1 int ~" + bad);
        }
        for (String bad : new String[] {"9223372036854775808", "-9223372036854775809", "9223372036854775810", "-0",
            "00", "+1", "18446744073709551617", "-18446744073709551617", "92233720368547758070",
            "-92233720368547758080", "100000000000000000000", "99999999999999999999999999999999999999999"}) {
            faulty("block 1 long ~" + bad);
        }
        for (String bad : new String[] {"128", "-129", "255", "-0", "+0", "+1", "00", "18446744073709551617"}) {
            faulty("block 1 code 0 0 { push ~" + bad);
        }
        for (String bad : new String[] {"0", "1", "+32768", "-32769", "-0", "+00", "-01", "+01", "+-1", "-+1", "+",
            "-", "+65536", "+18446744073709551617", "-18446744073709551617", "@", "@-1", "@+1", "@00", "@01", "@x",
            "@1x", "@@1", "}"}) {
            faulty("block 1 code 0 0 { jump ~" + bad + " }");
            faulty("block 1 code 0 0 { zero ~" + bad + " }");
            faulty("block 1 code 0 0 { @0 pick 2 @0 ~" + bad + " }");
        }
    }

    private static void makeNames() {
        CHECKS.about("promise 5");
        made("block 1 name \"!~\" name \"x00\" name \"}\" name \"'\"",
            77, 1, 4, 2, 2, 33, 126, 2, 3, 120, 48, 48, 2, 1, 125, 2, 1, 39, 0, 0, 0);
        made("block 1 name x20 name x22 name x227f", 77, 1, 3, 2, 1, 32, 2, 1, 34, 2, 2, 34, 127, 0, 0, 0);
        for (String bad : new String[] {"\"", "\"\"", "\"\"\"", "\"a", "a\"", "\"ab", "ab\"", "\"a\"b\"", "\"a\"b",
            "\"a\"\"", "a", "'a'", "\"a b\"", "\"a\nb\"", "X00", "", "0"}) {
            faulty("block 1 name ~" + bad);
        }
    }

    private static void makeBytes() {
        CHECKS.about("promise 5");
        made("block 1 attach 1 x0123456789abcdef", 77, 1, 0, 0, 0, 1, 1, 8, 1, 35, 69, 103, 137, 171, 205, 239);
        made("block 1 code 0 0 { raw x0123456789abcdef }",
            77, 1, 0, 0, 1, 0, 0, 8, 1, 35, 69, 103, 137, 171, 205, 239, 0);
        for (String bad : new String[] {"x0", "x000", "xA0", "x0A", "x0g", "xg0", "x0/", "x0:", "x0`", "X00", "00",
            "xx00", "x+1", "\"a\"", "", "}"}) {
            faulty("block 1 attach 1 ~" + bad);
            faulty("block 1 code 1 1 { raw ~" + bad);
            if (!bad.equals("\"a\"")) {
                faulty("block 1 name ~" + bad);
            }
        }
    }

    private static void makeCodes() {
        CHECKS.about("promise 5");
        made("block 1 code 0 0 { nop push 1 load 2 add sub dup jump +3 zero -4 call 5 ret pick 1 +6 }",
            77, 1, 0, 0, 1, 0, 0, 21, 0, 1, 1, 2, 2, 3, 4, 5, 6, 0, 3, 7, 255, 252, 8, 5, 9, 10, 1, 0, 6, 0);
        made("block 1 code 0 0 { raw x } code 0 0 { raw x0b } code 0 0 { raw x00 }",
            77, 1, 0, 0, 3, 0, 0, 0, 0, 0, 1, 11, 0, 0, 1, 0, 0);
        faulty("block 1 code 1 2 ~nop");
        faulty("block 1 code 1 2 ~}");
        faulty("block 1 code 1 2 ~{nop }");
        faulty("block 1 code 1 2 { ~nop}");
        faulty("block 1 code 1 2 { ~{ }");
        faulty("block 1 code 1 2 { ~int 1 }");
        faulty("block 1 code 1 2 { ~Nop }");
        faulty("block 1 code 1 2 { ~nops }");
        faulty("block 1 code 1 2 { ~no }");
        faulty("block 1 code 1 2 { nop ~5 }");
        faulty("block 1 code 1 2 { nop ~raw x00 }");
        faulty("block 1 code 1 2 { @0 ~raw x00 }");
        faulty("block 1 code 1 2 { raw x00 ~@0 }");
        faulty("block 1 code 1 2 { raw x00 ~raw x00 }");
        faulty("block 1 code 1 2 { raw x00 ~x00 }");
        faulty("block 1 code 1 2 { raw x00 ~nop }");
        faulty("block 1 code 1 2 { pick 2 +1 ~}");
        faulty("block 1 code 1 2 { pick 1 +1 ~+1 }");
        faulty("block 1 code 1 2 { pick 0 ~+1 }");
        faulty("block 1 code 1 2 { } ~}");
        faulty("block 1 code 1 2 { } ~nop");
        faulty("block 1 code 1 2 { } ~@0");
        made("block 1 code 1 2 { nop } code 1 2 { raw x00 } code 1 2 { @0 }",
            77, 1, 0, 0, 3, 1, 2, 1, 0, 1, 2, 1, 0, 1, 2, 0, 0);
    }

    private static void makeLabels() {
        CHECKS.about("promise 5");
        made("block 1 code 0 0 { @0 jump @0 }", 77, 1, 0, 0, 1, 0, 0, 3, 6, 0, 0, 0);
        made("block 1 code 0 0 { jump @0 @0 }", 77, 1, 0, 0, 1, 0, 0, 3, 6, 0, 3, 0);
        made("block 1 code 0 0 { @0 nop zero @0 }", 77, 1, 0, 0, 1, 0, 0, 4, 0, 7, 255, 255, 0);
        made("block 1 code 0 0 { nop pick 3 @0 @1 @2 @0 nop @1 @2 ret }",
            77, 1, 0, 0, 1, 0, 0, 11, 0, 10, 3, 0, 8, 0, 9, 0, 9, 0, 9, 0);
        made("block 1 code 0 0 { @0 @1 @2 }", 77, 1, 0, 0, 1, 0, 0, 0, 0);
        made("block 1 code 0 0 { @0 @1 @2 @3 @4 @5 @6 @7 @8 @9 nop @10 jump @10 jump @9 }",
            77, 1, 0, 0, 1, 0, 0, 7, 0, 6, 0, 0, 6, 255, 252, 0);
        made("block 1 code 0 0 { @0 nop jump @0 } code 0 0 { nop @0 nop jump @0 }",
            77, 1, 0, 0, 2, 0, 0, 4, 0, 6, 255, 255, 0, 0, 5, 0, 0, 6, 255, 255, 0);
        faulty("block 1 code 0 0 { ~@1 }");
        faulty("block 1 code 0 0 { @0 ~@0 }");
        faulty("block 1 code 0 0 { @0 ~@2 }");
        faulty("block 1 code 0 0 { @0 @1 ~@0 }");
        faulty("block 1 code 0 0 { ~@ }");
        faulty("block 1 code 0 0 { ~@00 }");
        faulty("block 1 code 0 0 { ~@-0 }");
        faulty("block 1 code 0 0 { ~@+0 }");
        faulty("block 1 code 0 0 { @0 ~@01 }");
        faulty("block 1 code 0 0 { ~@4294967296 }");
        faulty("block 1 code 0 0 { ~@18446744073709551616 }");
        faulty("block 1 code 0 0 { jump @0 ~} nop");
        faulty("block 1 code 0 0 { jump @1 @0 ~}");
        faulty("block 1 code 0 0 { @0 jump @0 jump @7 jump @0 ~} attach 1 x");
        faulty("block 1 code 0 0 { @0 jump @4294967296 ~}");
        faulty("block 1 code 0 0 { @0 jump @18446744073709551616 ~}");
        faulty("block 1 code 0 0 { @0 jump @99999999999999999999999 ~}");
        faulty("block 1 code 0 0 { @0 jump @2147483647 jump @2147483648 ~}");
        faulty("block 1 code 0 0 { jump @3 ~nip }");
        faulty("block 1 code 0 0 { jump @3~");
        faulty("block 1 code 0 0 { @0 jump @0 } code 0 0 { jump @0 ~}");
        StringBuilder many = new StringBuilder("block 1 code 0 0 { jump @44 ");
        for (int i = 0; i < 45; i++) {
            many.append('@').append(i).append(' ');
        }
        made(many + "}", 77, 1, 0, 0, 1, 0, 0, 3, 6, 0, 3, 0);
        StringBuilder most = new StringBuilder("block 0 code 0 0 {");
        for (int i = 0; i < 48; i++) {
            most.append(" @").append(i);
        }
        faulty(most + "~");
    }

    private static void makeOrderAndEnds() {
        CHECKS.about("promise 5");
        faulty("~");
        faulty("  \n ~");
        faulty("~blok 1");
        faulty("  ~1");
        faulty("~block1");
        faulty("~Block 1");
        faulty("block~");
        faulty("block  ~");
        faulty("block 1 ~block 1");
        faulty("block 1 ~1");
        faulty("block 1 ~;");
        faulty("block 1 ~{ }");
        faulty("block 1 ~raw x");
        faulty("block 1 ~push 1");
        faulty("block 1 ~ints 1");
        faulty("block 1 int~");
        faulty("block 1 name~");
        faulty("block 1 long \n~");
        faulty("block 1 pair 1~");
        faulty("block 1 field 1 ~");
        faulty("block 1 code 1 2~");
        faulty("block 1 code 1 2 {~");
        faulty("block 1 code 1 2 { nop \n~");
        faulty("block 1 code 1 2 { push~");
        faulty("block 1 code 1 2 { raw~");
        faulty("block 1 code 1 2 { raw x~");
        faulty("block 1 code 1 2 { pick 2 +1~");
        faulty("block 1 attach 1~");
        for (String early : new String[] {"int 1", "name x", "pair 1 2", "long 1"}) {
            faulty("block 1 field 1 2 ~" + early);
            faulty("block 1 code 1 2 { } ~" + early);
            faulty("block 1 attach 1 x ~" + early);
        }
        faulty("block 1 code 1 2 { } ~field 1 2");
        faulty("block 1 attach 1 x ~field 1 2");
        faulty("block 1 attach 1 x ~code 1 2 { }");
    }

    /** Twelve longs bring 108 bytes, so that a block of them has 114 and room for six more. */
    private static void makeRoom() {
        CHECKS.about("promise 5");
        String full = "block 1 " + times(12, "long 0 ");
        for (String fits : new String[] {"name \"abcd\"", "name x00000000", "pair 0 0 pair 0 0",
            "field 0 0 field 0 0 field 0 0", "code 0 0 { nop nop nop }", "code 0 0 { } code 0 0 { }",
            "code 0 0 { jump +0 @0 }", "code 0 0 { pick 0 @0 nop }", "code 0 0 { raw x000000 }", "attach 0 x00000000",
            "attach 0 x attach 0 x attach 0 x", "code 0 0 { push 0 nop }"}) {
            Loom x = withText(new Loom(), full + fits);
            due("make() of " + full + fits, x.make(), 120);
            due("size() of " + full + fits, x.size(), 120);
            due("exact() of " + full + fits, x.exact(), true);
        }
        for (String over : new String[] {"long ~0", "int 0 pair ~0 0", "int 0 name ~x", "name ~\"abcde\"",
            "name ~x0000000000", "pair 0 0 pair 0 0 ~int 0", "pair 0 0 pair 0 0 ~name x",
            "pair 0 0 pair 0 0 ~pair 0 0", "pair 0 0 pair 0 0 ~long 0", "pair 0 0 pair 0 0 field ~0 0",
            "pair 0 0 pair 0 0 code ~0 0 {", "pair 0 0 pair 0 0 attach ~0 x", "int 0 field 0 ~0", "int 0 attach 0 ~x",
            "int 0 code 0 ~0 {", "pair 0 0 field 0 0 attach 0 ~x", "attach 0 ~x0000000000",
            "code 0 0 { raw ~x00000000 }", "code 0 0 { nop nop nop ~nop }", "code 0 0 { nop nop nop @0 ~nop }",
            "code 0 0 { nop nop nop @0 ~jump @0 }", "code 0 0 { nop nop push ~0 }", "code 0 0 { nop jump ~+0 }",
            "code 0 0 { @0 nop jump ~@0 }", "code 0 0 { nop nop load ~0 }", "code 0 0 { nop nop call ~0 }",
            "code 0 0 { nop nop pick ~0 }", "code 0 0 { pick 255 ~+0 }", "code 0 0 { pick 1 ~@0 @0 }",
            "field 0 0 field 0 0 code 0 0 ~{ }", "code 0 0 { nop } code 0 0 ~{ }"}) {
            faulty(full + over);
        }
        faulty("block 1 name ~\"" + times(150, "a") + "\"");
        faulty("block 1 name ~\"" + times(113, "a") + "\"");
        Loom x = withText(new Loom(), "block 1 name \"" + times(112, "a") + "\"");
        due("make() of a long name", x.make(), 120);
        faulty("block 1 name \"" + times(112, "a") + "\" ~pair 1 2");
    }

    private static void makeState() {
        CHECKS.about("promise 5");
        Loom x = withBytes(new Loom(), 77, 8, 0, 0, 0);
        withText(x, "block 4").make();
        withBytes(x, 0);
        due("the bytes that wait stay: take()", x.take(), 8);
        withText(x, "blo").make();
        withText(x, "ck 7");
        due("a faulty text is gone too: make()", x.make(), -1);
        withText(x, "block 1 code 0 0 { jump @0").make();
        withText(x, "block 1 int 1");
        due("nothing stays of a code without an end: make()", x.make(), 11);
        withText(x, "block 1 code 0 0 { raw x00");
        due("make()", x.make(), -27);
        withText(x, "block 1 code 0 0 { nop }");
        due("make()", x.make(), 10);
        due("bytes", x.bytes(), "77 1 0 0 1 0 0 1 0 0");
    }

    // ---- promises 6 to 9

    private static void sizeAndByteAt() {
        CHECKS.about("promises 6 and 7");
        Loom x = new Loom();
        due("size()", x.size(), 6);
        withText(x, "block 200 field 128 255").make();
        due("size()", x.size(), 8);
        withBytes(x, 1, 2, 3);
        withText(x, "block");
        due("size() is not of what waits or is typed", x.size(), 8);
        due("byteAt(0)", x.byteAt(0), 77);
        due("byteAt(1)", x.byteAt(1), 200);
        due("byteAt(4)", x.byteAt(4), 128);
        due("byteAt(5)", x.byteAt(5), 255);
        due("byteAt(7)", x.byteAt(7), 0);
        due("byteAt(8)", x.byteAt(8), -1);
        due("byteAt(-1)", x.byteAt(-1), -1);
        due("take()", x.take(), -1);
        withBytes(x, 77, 0, 0, 0, 0, 0).take();
        due("size() of a shorter block", x.size(), 6);
        due("byteAt(6) of a shorter block", x.byteAt(6), -1);
        withBytes(x, filled(120, 77, 0, 0, 0, 0, 1, 0, 112)).take();
        due("size() of the longest", x.size(), 120);
        due("byteAt(119)", x.byteAt(119), 0);
        due("byteAt(120)", x.byteAt(120), -1);
    }

    private static void lengthAndAt() {
        CHECKS.about("promises 8 and 9");
        Loom x = new Loom();
        due("length()", x.length(), 8);
        due("at(0)", x.at(0), 98);
        due("at(5)", x.at(5), 32);
        due("at(7)", x.at(7), 10);
        due("at(8)", x.at(8), -1);
        due("at(-1)", x.at(-1), -1);
        withText(x, " block\n\n7  field 1\n2 attach 3 x  \n").make();
        due("text", x.text(), "block 7\nfield 1 2\nattach 3 x\n");
        due("length()", x.length(), 29);
        withText(x, "block 7 name x6162 name x61 name x20 name x").make();
        due("names that may be plain are", x.text(), "block 7\nname \"ab\"\nname \"a\"\nname x20\nname x\n");
        withText(x, "block 0").make();
        due("length() of a shorter text", x.length(), 8);
        due("at(8) of a shorter text", x.at(8), -1);
    }

    private static void textOfCodes() {
        CHECKS.about("promises 8 and 9");
        textIs("block 0\ncode 1 2 {\nnop\npush 1\npush -1\npush 127\npush -128\nload 255\nadd\nsub\ndup\ncall 200\n"
            + "ret\npick 0\n}\n",
            77, 0, 0, 0, 1, 1, 2, 19, 0, 1, 1, 1, 255, 1, 127, 1, 128, 2, 255, 3, 4, 5, 8, 200, 9, 10, 0, 0);
        textIs("block 0\ncode 0 0 {\n@0\njump @0\n}\n", 77, 0, 0, 0, 1, 0, 0, 3, 6, 0, 0, 0);
        textIs("block 0\ncode 0 0 {\njump +3\n}\n", 77, 0, 0, 0, 1, 0, 0, 3, 6, 0, 3, 0);
        textIs("block 0\ncode 0 0 {\njump @0\n@0\nret\n}\n", 77, 0, 0, 0, 1, 0, 0, 4, 6, 0, 3, 9, 0);
        textIs("block 0\ncode 0 0 {\nzero +1\nzero +2\nzero -1\nzero -7\nzero +32767\nzero -32768\n}\n",
            77, 0, 0, 0, 1, 0, 0, 18, 7, 0, 1, 7, 0, 2, 7, 255, 255, 7, 255, 249, 7, 127, 255, 7, 128, 0, 0);
        textIs("block 0\ncode 0 0 {\n@0\nnop\n@1\nzero @0\n@2\npick 4 @0 @2 -1 @1\n}\n",
            77, 0, 0, 0, 1, 0, 0, 14, 0, 7, 255, 255, 10, 4, 255, 252, 0, 0, 255, 255, 255, 253, 0);
        textIs("block 0\ncode 0 0 {\npick 3 @0 @1 @2\n@0\nnop\n@1\nnop\n@2\nnop\n}\n",
            77, 0, 0, 0, 1, 0, 0, 11, 10, 3, 0, 8, 0, 9, 0, 10, 0, 0, 0, 0);
        textIs("block 0\ncode 0 0 {\npick 2 +1 +6\n}\n",
            77, 0, 0, 0, 1, 0, 0, 6, 10, 2, 0, 1, 0, 6, 0);
        textIs("block 0\ncode 0 0 {\n@0\nnop\njump @0\n}\ncode 0 0 {\nnop\n@0\nnop\njump @0\n}\n",
            77, 0, 0, 0, 2, 0, 0, 4, 0, 6, 255, 255, 0, 0, 5, 0, 0, 6, 255, 255, 0);
        textIs("block 0\ncode 0 0 {\nraw x0b\n}\n", 77, 0, 0, 0, 1, 0, 0, 1, 11, 0);
        textIs("block 0\ncode 0 0 {\nraw x0006ff\n}\n", 77, 0, 0, 0, 1, 0, 0, 3, 0, 6, 255, 0);
        textIs("block 0\ncode 0 0 {\nraw x01\n}\nattach 0 x\n", 77, 0, 0, 0, 1, 0, 0, 1, 1, 1, 0, 0);
        textIs("block 0\ncode 0 0 {\nraw x0a010000ff\n}\n", 77, 0, 0, 0, 1, 0, 0, 5, 10, 1, 0, 0, 255, 0);
        StringBuilder many = new StringBuilder("block 0\ncode 0 0 {\n");
        int[] jumps = filled(5 + 3 + 37 * 3 + 1, 77, 0, 0, 0, 1, 0, 0, 111);
        for (int i = 0; i < 37; i++) {
            jumps[8 + 3 * i] = 6;
            many.append("@").append(i).append("\njump @").append(i).append("\n");
        }
        textIs(many + "}\n", jumps);
        Loom x = withText(new Loom(), "block 0 code 1 1 { raw x060000 } code 1 1 { @0 @1 nop zero -1 @2 jump +3 @3 }");
        due("make()", x.make(), 22);
        due("text", x.text(), "block 0\ncode 1 1 {\n@0\njump @0\n}\ncode 1 1 {\n@0\nnop\nzero @0\njump +3\n}\n");
    }

    // ---- promises 10 to 12

    private static void count() {
        CHECKS.about("promise 10");
        Loom x = new Loom();
        for (int part = 0; part < 4; part++) {
            due("count(" + part + ")", x.count(part), 0);
        }
        withText(x, "block 9 int 1 name x pair 1 2 long 4 field 1 2 field 1 2 field 1 2 "
            + "code 1 2 { nop } code 1 2 { } attach 1 x010203").make();
        due("count(0)", x.count(0), 4);
        due("count(1)", x.count(1), 3);
        due("count(2)", x.count(2), 2);
        due("count(3)", x.count(3), 1);
        for (int part : new int[] {-1, 4, 5, Integer.MIN_VALUE, Integer.MAX_VALUE}) {
            due("count(" + part + ")", x.count(part), -1);
        }
        withBytes(x, 77, 0, 200, 1, 2).take();
        due("count(0) after faulty bytes", x.count(0), 4);
        withBytes(x, 77, 0, 0, 1, 1, 2, 0, 2, 0, 0, 0, 0).take();
        due("count(0)", x.count(0), 0);
        due("count(1)", x.count(1), 1);
        due("count(2)", x.count(2), 0);
        due("count(3)", x.count(3), 2);
        withBytes(x, filled(120, 77, 0, 0, 0, 38)).take();
        due("count(2) of the most", x.count(2), 38);
        due("clear(37)", x.clear(37), 1);
        due("clear(38)", x.clear(38), -1);
    }

    private static void clearIs(int want, int... code) {
        int[] bytes = filled(8 + code.length + 1, 77, 0, 0, 0, 1, 1, 1, code.length);
        System.arraycopy(code, 0, bytes, 8, code.length);
        Loom x = withBytes(new Loom(), bytes);
        due("take() of the code " + Loom.joined(code), x.take() > 0, true);
        due("clear(0) of the code " + Loom.joined(code), x.clear(0), want);
        due("exact() of the code " + Loom.joined(code), x.exact(), true);
    }

    private static void clear() {
        CHECKS.about("promise 11");
        due("clear(0)", new Loom().clear(0), -1);
        clearIs(1);
        for (int b = 0; b < 256; b++) {
            clearIs(b == 0 || b == 3 || b == 4 || b == 5 || b == 9 ? 1 : 0, b);
            clearIs(b == 1 || b == 2 || b == 8 ? 1 : 0, b, 255);
            clearIs(b == 6 || b == 7 ? 1 : 0, b, 255, 255);
            clearIs(b == 10 ? 1 : 0, b, 1, 255, 255);
        }
        clearIs(1, 10, 0);
        clearIs(0, 10);
        clearIs(0, 10, 1);
        clearIs(0, 10, 1, 0);
        clearIs(0, 10, 255, 0, 0);
        clearIs(1, 10, 2, 0, 0, 0, 0, 6, 1, 1, 9);
        clearIs(0, 10, 2, 0, 0, 0, 0, 6, 1);
        clearIs(0, 9, 11);
        clearIs(1, 1, 11);
        clearIs(0, 6, 0);
        Loom x = withText(new Loom(), "block 0 code 1 1 { nop } code 1 1 { raw x01 } code 1 1 { raw x0101 }");
        x.make();
        due("clear(0)", x.clear(0), 1);
        due("clear(1)", x.clear(1), 0);
        due("clear(2)", x.clear(2), 1);
        due("clear(3)", x.clear(3), -1);
        due("clear(-1)", x.clear(-1), -1);
        withBytes(x, 77, 0, 0, 0, 3, 1, 1, 1, 11, 2, 2).take();
        due("clear(0) after faulty bytes", x.clear(0), 1);
        withText(x, "block 0").make();
        due("clear(0) of a block without", x.clear(0), -1);
    }

    private static void exact() {
        CHECKS.about("promise 12");
        Loom x = new Loom();
        due("exact()", x.exact(), true);
        withText(x, "block 3 name \"a\" code 1 1 { nop");
        withBytes(x, 77, 3);
        due("exact()", x.exact(), true);
        due("what is typed stays: make()", x.make(), -32);
        withBytes(x, 0, 0, 0, 0);
        due("what waits stays: take()", x.take(), 8);
        due("bytes", x.bytes(), "77 3 0 0 0 0");
        due("exact()", x.exact(), true);
        due("text", x.text(), "block 3\n");
    }

    private static void oddArguments() {
        CHECKS.about("promises 7, 9, 11");
        Loom x = withText(new Loom(), "block 0 code 0 0 { nop }");
        x.make();
        for (int odd : new int[] {-1, -2, 4096, Integer.MAX_VALUE, Integer.MIN_VALUE}) {
            due("byteAt(" + odd + ")", x.byteAt(odd), -1);
            due("at(" + odd + ")", x.at(odd), -1);
            due("clear(" + odd + ")", x.clear(odd), -1);
        }
    }

    private static void theExampleOfTheReadme() {
        CHECKS.about("the example of README.md");
        ExactLoom loom = new ExactLoom();
        due("put", loom.put(0x4d030001, 4), true);
        due("put", loom.put(0x05ff0000, 4), true);
        due("take()", loom.take(), 20);
        due("at(0)", loom.at(0), (int) 'b');
        for (char c : "block 7 code 1 2 { @0 nop jump @0 }".toCharArray()) {
            due("type", loom.type(c, 1), true);
        }
        due("make()", loom.make(), 13);
        due("byteAt(1)", loom.byteAt(1), 7);
        due("count(2)", loom.count(2), 1);
        due("clear(0)", loom.clear(0), 1);
        due("exact()", loom.exact(), true);
    }
}
