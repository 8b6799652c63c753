/** Turns blocks of bytes into texts and texts into blocks, so that each byte comes back as it was. */
public final class ExactLoom {
    private static final int BLOCK_MOST = 120;
    private static final int WAITING_MOST = 124;
    private static final int TYPED_MOST = 200;
    // No part of a block gives more characters a byte than fields do: 57 lines of 14 behind the first line's 10.
    private static final int TEXT_MOST = 808;

    private static final int NONE = -1;

    private static final int FIRST_BYTE = 77;
    private static final int BARE_BYTES = 6;
    private static final int BYTE_MOST = 255;

    private static final int POOL = 0;
    private static final int FIELDS = 1;
    private static final int CODES = 2;
    private static final int ATTACHMENTS = 3;
    private static final int PARTS = 4;

    private static final int INT = 1;
    private static final int NAME = 2;
    private static final int PAIR = 3;
    private static final int LONG = 4;

    private static final int LINE_END = 10;
    private static final int NO_SIGN = 0;

    private final Row waiting;
    private final Row typed;
    private final Maker maker;
    private final Scribe scribe;
    private Block block;
    private Block spare;

    public ExactLoom() {
        waiting = new Row(WAITING_MOST);
        typed = new Row(TYPED_MOST);
        maker = new Maker();
        scribe = new Scribe();
        block = new Block();
        spare = new Block();
        block.becomeBare();
        scribe.write(block);
    }

    public boolean put(int word, int n) {
        if (n < 1 || n > 4 || waiting.used + n > WAITING_MOST) {
            return false;
        }
        waiting.appendLowest(word, n);
        return true;
    }

    public int take() {
        int fault = adopt(waiting);
        waiting.empty();
        if (fault != NONE) {
            return -1 - fault;
        }
        scribe.write(block);
        return scribe.text.used;
    }

    public boolean type(int word, int n) {
        if (n < 1 || n > 4 || typed.used + n > TYPED_MOST || !areCharacters(word, n)) {
            return false;
        }
        typed.appendLowest(word, n);
        return true;
    }

    public int make() {
        int fault = maker.makeFrom(typed);
        typed.empty();
        if (fault == NONE) {
            fault = adopt(maker.made);
        }
        if (fault != NONE) {
            return -1 - fault;
        }
        scribe.write(block);
        return block.bytes.used;
    }

    public int size() {
        return block.bytes.used;
    }

    public int byteAt(int i) {
        return block.bytes.cellOrNone(i);
    }

    public int length() {
        return scribe.text.used;
    }

    public int at(int i) {
        return scribe.text.cellOrNone(i);
    }

    public int count(int part) {
        return part < 0 || part >= PARTS ? NONE : block.howMany(part);
    }

    public int clear(int k) {
        if (k < 0 || k >= block.howMany(CODES)) {
            return NONE;
        }
        return block.isClearCode(block.codePlace(k)) ? 1 : 0;
    }

    public boolean exact() {
        return maker.makeFrom(scribe.text) == NONE && maker.made.isLike(block.bytes);
    }

    private static boolean areCharacters(int word, int n) {
        for (int i = 0; i < n; i++) {
            int c = (word >> (8 * i)) & 255;
            if (c != LINE_END && (c < 32 || c > 126)) {
                return false;
            }
        }
        return true;
    }

    /** Makes the bytes the block, unless they are faulty; answers where they are, or NONE. */
    private int adopt(Row bytes) {
        // The spare block is tried first, since a faulty row has to leave the block as it is.
        spare.bytes.copyFrom(bytes);
        int fault = spare.scan();
        if (fault == NONE) {
            Block old = block;
            block = spare;
            spare = old;
        }
        return fault;
    }

    /** A row of numbers that grows up to a fixed length. */
    private static final class Row {
        private final int[] cells;
        private int used;

        Row(int most) {
            cells = new int[most];
            used = 0;
        }

        void empty() {
            used = 0;
        }

        void append(int value) {
            if (used < cells.length) {
                cells[used] = value;
                used++;
            }
        }

        void appendLowest(int word, int n) {
            for (int i = n - 1; i >= 0; i--) {
                append((word >> (8 * i)) & 255);
            }
        }

        /** What is in the cell; 0 if there is no such cell. */
        int cell(int i) {
            return i < 0 || i >= used ? 0 : cells[i];
        }

        int cellOrNone(int i) {
            return i < 0 || i >= used ? NONE : cells[i];
        }

        void change(int i, int value) {
            if (i >= 0 && i < used) {
                cells[i] = value;
            }
        }

        /** The signed number that n bytes from cell i on are. */
        long signedAt(int i, int n) {
            long value = (byte) cell(i);
            for (int k = 1; k < n; k++) {
                value = (value << 8) | cell(i + k);
            }
            return value;
        }

        void copyFrom(Row other) {
            used = 0;
            for (int i = 0; i < other.used; i++) {
                append(other.cell(i));
            }
        }

        boolean isLike(Row other) {
            if (used != other.used) {
                return false;
            }
            for (int i = 0; i < used; i++) {
                if (cell(i) != other.cell(i)) {
                    return false;
                }
            }
            return true;
        }
    }

    /** The bytes of a block and where its parts are. */
    private static final class Block {
        private static final int CODE_HEAD = 3;

        private final Row bytes;
        private final int[] countCells;
        private final int[] codePlaces;

        Block() {
            bytes = new Row(WAITING_MOST);
            countCells = new int[PARTS];
            codePlaces = new int[BLOCK_MOST / CODE_HEAD];
        }

        void becomeBare() {
            bytes.empty();
            bytes.append(FIRST_BYTE);
            for (int i = 1; i < BARE_BYTES; i++) {
                bytes.append(0);
            }
            scan();
        }

        /** Finds the parts; answers where the bytes are faulty, or NONE. */
        int scan() {
            // Bytes are missing at the row's end, and too many from the longest block's end on, whatever they say.
            int limit = Math.min(bytes.used, BLOCK_MOST);
            if (limit > 0 && bytes.cell(0) != FIRST_BYTE) {
                return 0;
            }
            int place = 2;
            for (int part = 0; part < PARTS; part++) {
                if (place >= limit) {
                    return limit;
                }
                countCells[part] = place;
                int many = bytes.cell(place);
                place++;
                for (int i = 0; i < many; i++) {
                    if (part == POOL && place < limit && !isKind(bytes.cell(place))) {
                        return place;
                    }
                    if (part == CODES && i < codePlaces.length) {
                        codePlaces[i] = place;
                    }
                    place = itemEnd(part, place);
                    if (place > limit) {
                        return limit;
                    }
                }
            }
            return place < bytes.used ? place : NONE;
        }

        private static boolean isKind(int kind) {
            return kind >= INT && kind <= LONG;
        }

        /** The place behind the item that starts at this place. */
        int itemEnd(int part, int place) {
            switch (part) {
                case POOL:
                    return entryEnd(place);
                case FIELDS:
                    return place + 2;
                case CODES:
                    return place + CODE_HEAD + bytes.cell(place + 2);
                default:
                    return place + 2 + bytes.cell(place + 1);
            }
        }

        private int entryEnd(int place) {
            switch (bytes.cell(place)) {
                case INT:
                    return place + 5;
                case NAME:
                    return place + 2 + bytes.cell(place + 1);
                case PAIR:
                    return place + 3;
                default:
                    return place + 9;
            }
        }

        int howMany(int part) {
            return part < 0 || part >= PARTS ? 0 : bytes.cell(countCells[part]);
        }

        int firstItem(int part) {
            return part < 0 || part >= PARTS ? 0 : countCells[part] + 1;
        }

        int codePlace(int k) {
            return k < 0 || k >= codePlaces.length ? 0 : codePlaces[k];
        }

        boolean isClearCode(int codePlace) {
            int end = itemEnd(CODES, codePlace);
            int place = codePlace + CODE_HEAD;
            for (int i = 0; i < BLOCK_MOST && place < end; i++) {
                int width = Instructions.widthAt(bytes, place, end);
                if (width == 0) {
                    return false;
                }
                place += width;
            }
            return place == end;
        }
    }

    /** What the instructions of a code are. */
    private static final class Instructions {
        private static final int NOP = 0;
        private static final int PUSH = 1;
        private static final int LOAD = 2;
        private static final int ADD = 3;
        private static final int SUB = 4;
        private static final int DUP = 5;
        private static final int JUMP = 6;
        private static final int ZERO = 7;
        private static final int CALL = 8;
        private static final int RET = 9;
        private static final int PICK = 10;

        static String wordOf(int instruction) {
            switch (instruction) {
                case NOP:
                    return "nop";
                case PUSH:
                    return "push";
                case LOAD:
                    return "load";
                case ADD:
                    return "add";
                case SUB:
                    return "sub";
                case DUP:
                    return "dup";
                case JUMP:
                    return "jump";
                case ZERO:
                    return "zero";
                case CALL:
                    return "call";
                case RET:
                    return "ret";
                default:
                    return "pick";
            }
        }

        /** The instruction that has the word in hand; NONE if none has. */
        static int instructionOf(Words words) {
            for (int i = NOP; i <= PICK; i++) {
                if (words.is(wordOf(i))) {
                    return i;
                }
            }
            return NONE;
        }

        /** How many bytes the instruction at this place has; 0 if none that ends in time stands there. */
        static int widthAt(Row bytes, int place, int end) {
            int instruction = bytes.cell(place);
            if (instruction > PICK) {
                return 0;
            }
            int width = headOf(instruction) + 2 * distancesAt(bytes, place);
            return place + width > end ? 0 : width;
        }

        /** How many bytes the instruction has before its distances. */
        static int headOf(int instruction) {
            return hasByte(instruction) ? 2 : 1;
        }

        static boolean hasByte(int instruction) {
            return instruction == PUSH || instruction == LOAD || instruction == CALL || instruction == PICK;
        }

        static int distancesAt(Row bytes, int place) {
            switch (bytes.cell(place)) {
                case JUMP:
                case ZERO:
                    return 1;
                case PICK:
                    return bytes.cell(place + 1);
                default:
                    return 0;
            }
        }
    }

    /** Tells which places of a clear code its text has lines @K for. */
    private static final class Marks {
        private static final int NO_START = -3;
        private static final int START = -2;
        private static final int TARGET = -1;

        // For each place one of the three above, or the K of its line.
        private final int[] marks;
        private int places;

        Marks() {
            marks = new int[BLOCK_MOST];
        }

        void findStarts(Row bytes, int first, int end) {
            places = Math.min(end - first, marks.length);
            int next = 0;
            for (int i = 0; i < places; i++) {
                marks[i] = i == next ? START : NO_START;
                if (i == next) {
                    next += Instructions.widthAt(bytes, first + i, end);
                }
            }
        }

        void findTargets(Row bytes, int first) {
            for (int i = 0; i < places; i++) {
                if (marks[i] != NO_START) {
                    findTargetsOf(bytes, first, i);
                }
            }
        }

        private void findTargetsOf(Row bytes, int first, int origin) {
            int place = first + origin;
            int many = Instructions.distancesAt(bytes, place);
            int cell = place + Instructions.headOf(bytes.cell(place));
            for (int i = 0; i < many; i++) {
                int target = origin + (int) bytes.signedAt(cell + 2 * i, 2);
                if (target >= 0 && target < places && marks[target] == START) {
                    marks[target] = TARGET;
                }
            }
        }

        void numberTargets() {
            int line = 0;
            for (int i = 0; i < places; i++) {
                if (marks[i] == TARGET) {
                    marks[i] = line;
                    line++;
                }
            }
        }

        boolean isStart(int i) {
            return i >= 0 && i < places && marks[i] != NO_START;
        }

        /** The K of the line @K before this place; NONE if it has no such line. */
        int lineAt(int i) {
            return i >= 0 && i < places && marks[i] >= 0 ? marks[i] : NONE;
        }
    }

    /** Writes the text of a block. */
    private static final class Scribe {
        private static final int DIGITS_MOST = 19;

        private final Row text;
        private final Row digits;
        private final Marks marks;

        Scribe() {
            text = new Row(TEXT_MOST);
            digits = new Row(DIGITS_MOST);
            marks = new Marks();
        }

        void write(Block block) {
            text.empty();
            word("block");
            number(NO_SIGN, block.bytes.cell(1));
            endLine();
            for (int part = 0; part < PARTS; part++) {
                int many = block.howMany(part);
                int place = block.firstItem(part);
                for (int i = 0; i < many; i++) {
                    switch (part) {
                        case POOL:
                            writeEntry(block.bytes, place);
                            break;
                        case FIELDS:
                            writeField(block.bytes, place);
                            break;
                        case CODES:
                            writeCode(block, place);
                            break;
                        default:
                            writeAttachment(block.bytes, place);
                            break;
                    }
                    endLine();
                    place = block.itemEnd(part, place);
                }
            }
        }

        private void writeEntry(Row bytes, int place) {
            switch (bytes.cell(place)) {
                case INT:
                    word("int");
                    number(NO_SIGN, bytes.signedAt(place + 1, 4));
                    break;
                case NAME:
                    word("name");
                    name(bytes, place + 2, bytes.cell(place + 1));
                    break;
                case PAIR:
                    word("pair");
                    number(NO_SIGN, bytes.cell(place + 1));
                    number(NO_SIGN, bytes.cell(place + 2));
                    break;
                default:
                    word("long");
                    number(NO_SIGN, bytes.signedAt(place + 1, 8));
                    break;
            }
        }

        private void writeField(Row bytes, int place) {
            word("field");
            number(NO_SIGN, bytes.cell(place));
            number(NO_SIGN, bytes.cell(place + 1));
        }

        private void writeAttachment(Row bytes, int place) {
            word("attach");
            number(NO_SIGN, bytes.cell(place));
            bareBytes(bytes, place + 2, bytes.cell(place + 1));
        }

        private void writeCode(Block block, int place) {
            Row bytes = block.bytes;
            word("code");
            number(NO_SIGN, bytes.cell(place));
            number(NO_SIGN, bytes.cell(place + 1));
            word("{");
            endLine();
            int first = place + Block.CODE_HEAD;
            int end = block.itemEnd(CODES, place);
            if (block.isClearCode(place)) {
                marks.findStarts(bytes, first, end);
                marks.findTargets(bytes, first);
                marks.numberTargets();
                for (int i = 0; i < end - first; i++) {
                    writePlace(bytes, first, i);
                }
            } else {
                word("raw");
                bareBytes(bytes, first, end - first);
                endLine();
            }
            word("}");
        }

        private void writePlace(Row bytes, int first, int i) {
            int line = marks.lineAt(i);
            if (line != NONE) {
                number('@', line);
                endLine();
            }
            if (marks.isStart(i)) {
                writeInstruction(bytes, first, i);
                endLine();
            }
        }

        private void writeInstruction(Row bytes, int first, int origin) {
            int place = first + origin;
            int instruction = bytes.cell(place);
            word(Instructions.wordOf(instruction));
            if (instruction == Instructions.PUSH) {
                number(NO_SIGN, bytes.signedAt(place + 1, 1));
            } else if (Instructions.hasByte(instruction)) {
                number(NO_SIGN, bytes.cell(place + 1));
            }
            int many = Instructions.distancesAt(bytes, place);
            int cell = place + Instructions.headOf(instruction);
            for (int i = 0; i < many; i++) {
                int distance = (int) bytes.signedAt(cell + 2 * i, 2);
                int line = marks.lineAt(origin + distance);
                if (line != NONE) {
                    number('@', line);
                } else {
                    number(distance < 0 ? NO_SIGN : '+', distance);
                }
            }
        }

        // Each word brings a space behind it, which the line's end then takes the place of.
        private void endLine() {
            text.change(text.used - 1, LINE_END);
        }

        private void word(String word) {
            for (int i = 0; i < word.length(); i++) {
                text.append(word.charAt(i));
            }
            text.append(' ');
        }

        private void number(int sign, long value) {
            if (sign != NO_SIGN) {
                text.append(sign);
            }
            if (value < 0) {
                text.append('-');
            }
            // The digits come from the number below 0, as the lowest long has no counterpart above it.
            long rest = value < 0 ? value : -value;
            digits.empty();
            for (int i = 0; i < DIGITS_MOST && (i == 0 || rest != 0); i++) {
                digits.append('0' - (int) (rest % 10));
                rest /= 10;
            }
            for (int i = digits.used - 1; i >= 0; i--) {
                text.append(digits.cell(i));
            }
            text.append(' ');
        }

        private void name(Row bytes, int first, int n) {
            if (!isPlainName(bytes, first, n)) {
                bareBytes(bytes, first, n);
                return;
            }
            text.append('"');
            for (int i = 0; i < n; i++) {
                text.append(bytes.cell(first + i));
            }
            text.append('"');
            text.append(' ');
        }

        private static boolean isPlainName(Row bytes, int first, int n) {
            for (int i = 0; i < n; i++) {
                int c = bytes.cell(first + i);
                if (c < 33 || c > 126 || c == '"') {
                    return false;
                }
            }
            return n > 0;
        }

        private void bareBytes(Row bytes, int first, int n) {
            text.append('x');
            for (int i = 0; i < n; i++) {
                int value = bytes.cell(first + i);
                text.append(hexDigit(value >> 4));
                text.append(hexDigit(value & 15));
            }
            text.append(' ');
        }

        private static int hexDigit(int value) {
            return value < 10 ? '0' + value : 'a' + value - 10;
        }
    }

    /** Goes through the words of a text. */
    private static final class Words {
        private int[] letters;
        private int used;
        private int start;
        private int end;
        // Whether the word in hand is a sign (or none) and a number without a needless 0, and less that number.
        private int sign;
        private boolean hasNumber;
        private boolean beyondLong;
        private long less;
        // What the number, distance or @K that was found last says.
        private long value;

        Words() {
            letters = new int[0];
        }

        void open(Row text) {
            letters = text.cells;
            used = Math.min(text.used, text.cells.length);
            end = 0;
            step();
        }

        /** Goes to the next word; behind the last one, to an empty word at the text's end. */
        void step() {
            int i = end;
            while (i < used && isGap(letters[i])) {
                i++;
            }
            start = i;
            while (i < used && !isGap(letters[i])) {
                i++;
            }
            end = i;
            readNumeral();
        }

        private static boolean isGap(int c) {
            return c == ' ' || c == LINE_END;
        }

        private void readNumeral() {
            int first = start < end ? letters[start] : 0;
            sign = first == '+' || first == '-' || first == '@' ? first : NO_SIGN;
            int from = sign == NO_SIGN ? start : start + 1;
            hasNumber = from < end && (letters[from] != '0' || from + 1 == end);
            beyondLong = false;
            // Counted below 0, as the lowest long has no counterpart above it.
            less = 0;
            for (int i = from; i < end && hasNumber; i++) {
                int digit = letters[i] - '0';
                hasNumber = digit >= 0 && digit <= 9;
                beyondLong = beyondLong || less < (Long.MIN_VALUE + digit) / 10;
                less = less * 10 - digit;
            }
        }

        boolean isThere() {
            return start < end;
        }

        int width() {
            return end - start;
        }

        /** Character i of the word; 0 if there is none. */
        int letter(int i) {
            return i < 0 || i >= end - start ? 0 : letters[start + i];
        }

        boolean is(String word) {
            if (end - start != word.length()) {
                return false;
            }
            for (int i = 0; i < word.length(); i++) {
                if (letter(i) != word.charAt(i)) {
                    return false;
                }
            }
            return true;
        }

        /** Whether the word is a number from the least (0 or below it) to the most (0 or above it). */
        boolean isNumber(long least, long most) {
            if (!hasNumber || beyondLong) {
                return false;
            }
            if (sign == '-') {
                value = less;
                return less != 0 && less >= least;
            }
            value = -less;
            return sign == NO_SIGN && less >= -most;
        }

        boolean isDistance() {
            if (sign == '-') {
                return isNumber(-32768, 0);
            }
            value = -less;
            return sign == '+' && hasNumber && !beyondLong && less >= -32767;
        }

        /** Whether the word is an @K; a K above all ints is told as the highest of them, which no line has either. */
        boolean isLabel() {
            value = beyondLong || less < -Integer.MAX_VALUE ? Integer.MAX_VALUE : -less;
            return sign == '@' && hasNumber;
        }

        boolean areBytes() {
            if (letter(0) != 'x' || width() % 2 == 0) {
                return false;
            }
            for (int i = 1; i < width(); i++) {
                if (hexValue(letter(i)) == NONE) {
                    return false;
                }
            }
            return true;
        }

        int byteOf(int i) {
            return hexValue(letter(1 + 2 * i)) * 16 + hexValue(letter(2 + 2 * i));
        }

        private static int hexValue(int c) {
            if (c >= '0' && c <= '9') {
                return c - '0';
            }
            return c >= 'a' && c <= 'f' ? c - 'a' + 10 : NONE;
        }

        boolean isQuoted() {
            int last = width() - 1;
            if (last < 2 || letter(0) != '"' || letter(last) != '"') {
                return false;
            }
            for (int i = 1; i < last; i++) {
                if (letter(i) == '"') {
                    return false;
                }
            }
            return true;
        }
    }

    /** The lines @K of a code, and the distances that name them. */
    private static final class Labels {
        // A typed text has room for 48 lines in a code, and a block for 55 distances.
        private static final int MOST = 64;

        private final int[] places;
        private int lines;
        private final int[] namedLines;
        private final int[] origins;
        private final int[] cells;
        private int names;

        Labels() {
            places = new int[MOST];
            namedLines = new int[MOST];
            origins = new int[MOST];
            cells = new int[MOST];
        }

        void forget() {
            lines = 0;
            names = 0;
        }

        boolean addLine(long line, int place) {
            if (line != lines || lines >= MOST) {
                return false;
            }
            places[lines] = place;
            lines++;
            return true;
        }

        /** Notes that the distance in this cell goes from the origin to a line that may be still to come. */
        boolean addName(long line, int origin, int cell) {
            if (names >= MOST) {
                return false;
            }
            namedLines[names] = (int) line;
            origins[names] = origin;
            cells[names] = cell;
            names++;
            return true;
        }

        /** Writes the distances that name lines; false if one names none. */
        boolean settle(Row bytes) {
            for (int i = 0; i < names && i < MOST; i++) {
                int line = namedLines[i];
                if (line < 0 || line >= lines || line >= MOST) {
                    return false;
                }
                int distance = places[line] - origins[i];
                bytes.change(cells[i], (distance >> 8) & 255);
                bytes.change(cells[i] + 1, distance & 255);
            }
            return true;
        }
    }

    /** Makes the bytes of a block of a text. */
    private static final class Maker {
        private final Row made;
        private final Words words;
        private final Labels labels;
        private int part;
        private int countCell;
        private int brought;
        private boolean inCode;
        private boolean codeHasLines;
        private boolean codeHasRaw;
        private int codeSizeCell;

        Maker() {
            made = new Row(BLOCK_MOST);
            words = new Words();
            labels = new Labels();
        }

        /** Answers where the text is faulty, or NONE. What reads a part of it stops at a word that may not stand. */
        int makeFrom(Row text) {
            words.open(text);
            inCode = false;
            boolean good = readFirstLine();
            for (int i = 0; i < text.used && good && words.isThere(); i++) {
                good = inCode ? readCodeLine() : readItem();
            }
            if (!good || inCode) {
                return words.start;
            }
            goToPart(ATTACHMENTS);
            return NONE;
        }

        private boolean readFirstLine() {
            if (!words.is("block")) {
                return false;
            }
            words.step();
            if (!words.isNumber(0, BYTE_MOST)) {
                return false;
            }
            made.empty();
            made.append(FIRST_BYTE);
            made.append((int) words.value);
            words.step();
            brought = BARE_BYTES;
            part = NONE;
            goToPart(POOL);
            return true;
        }

        private void goToPart(int newPart) {
            for (int i = part + 1; i <= newPart; i++) {
                countCell = made.used;
                made.append(0);
                part = i;
            }
        }

        private boolean readItem() {
            int kind = kindOfWord();
            int itsPart = kind != NONE ? POOL : partOfWord();
            if (itsPart < part) {
                return false;
            }
            goToPart(itsPart);
            made.change(countCell, made.cell(countCell) + 1);
            if (itsPart == POOL) {
                return readEntry(kind);
            }
            words.step();
            if (!readByte()) {
                return false;
            }
            switch (itsPart) {
                case FIELDS:
                    return readByte();
                case CODES:
                    return readByte() && openCode();
                default:
                    return readBytes(true);
            }
        }

        private int kindOfWord() {
            if (words.is("int")) {
                return INT;
            }
            if (words.is("name")) {
                return NAME;
            }
            if (words.is("pair")) {
                return PAIR;
            }
            return words.is("long") ? LONG : NONE;
        }

        private int partOfWord() {
            if (words.is("field")) {
                return FIELDS;
            }
            if (words.is("code")) {
                return CODES;
            }
            return words.is("attach") ? ATTACHMENTS : NONE;
        }

        private boolean readEntry(int kind) {
            if (!bring(kind, 1)) {
                return false;
            }
            words.step();
            switch (kind) {
                case INT:
                    return readNumber(Integer.MIN_VALUE, Integer.MAX_VALUE, 4);
                case NAME:
                    return words.areBytes() ? readBytes(true) : readQuoted();
                case PAIR:
                    return readNumber(0, BYTE_MOST, 1) && readNumber(0, BYTE_MOST, 1);
                default:
                    return readNumber(Long.MIN_VALUE, Long.MAX_VALUE, 8);
            }
        }

        private boolean readCodeLine() {
            if (words.is("}")) {
                return closeCode();
            }
            if (codeHasRaw) {
                return false;
            }
            if (words.is("raw")) {
                return readRaw();
            }
            codeHasLines = true;
            return words.isLabel() ? readLabelLine() : readInstruction();
        }

        private boolean openCode() {
            if (!words.is("{") || !bring(0, 1)) {
                return false;
            }
            words.step();
            codeSizeCell = made.used - 1;
            labels.forget();
            inCode = true;
            codeHasLines = false;
            codeHasRaw = false;
            return true;
        }

        private boolean closeCode() {
            if (!labels.settle(made)) {
                return false;
            }
            words.step();
            made.change(codeSizeCell, placeInCode());
            inCode = false;
            return true;
        }

        private int placeInCode() {
            return made.used - codeSizeCell - 1;
        }

        private boolean readRaw() {
            if (codeHasLines) {
                return false;
            }
            words.step();
            codeHasRaw = true;
            return readBytes(false);
        }

        private boolean readLabelLine() {
            if (!labels.addLine(words.value, placeInCode())) {
                return false;
            }
            words.step();
            return true;
        }

        private boolean readInstruction() {
            int cell = made.used;
            int origin = placeInCode();
            int instruction = Instructions.instructionOf(words);
            if (instruction == NONE || !bring(instruction, 1)) {
                return false;
            }
            words.step();
            boolean good = true;
            if (instruction == Instructions.PUSH) {
                good = readNumber(-128, 127, 1);
            } else if (Instructions.hasByte(instruction)) {
                good = readNumber(0, BYTE_MOST, 1);
            }
            int many = Instructions.distancesAt(made, cell);
            for (int i = 0; i < many && good; i++) {
                good = readDistance(origin);
            }
            return good;
        }

        private boolean readDistance(int origin) {
            if (words.isLabel()) {
                if (!bring(0, 2) || !labels.addName(words.value, origin, made.used - 2)) {
                    return false;
                }
            } else if (!words.isDistance() || !bring(words.value, 2)) {
                return false;
            }
            words.step();
            return true;
        }

        private boolean readByte() {
            return readNumber(0, BYTE_MOST, 1);
        }

        private boolean readNumber(long least, long most, int width) {
            if (!words.isNumber(least, most) || !bring(words.value, width)) {
                return false;
            }
            words.step();
            return true;
        }

        private boolean readQuoted() {
            int n = words.width() - 2;
            if (!words.isQuoted() || !hasRoom(1 + n)) {
                return false;
            }
            bring(n, 1);
            for (int i = 1; i <= n; i++) {
                bring(words.letter(i), 1);
            }
            words.step();
            return true;
        }

        private boolean readBytes(boolean withTheirNumber) {
            int n = words.width() / 2;
            if (!words.areBytes() || !hasRoom(withTheirNumber ? 1 + n : n)) {
                return false;
            }
            if (withTheirNumber) {
                bring(n, 1);
            }
            for (int i = 0; i < n; i++) {
                bring(words.byteOf(i), 1);
            }
            words.step();
            return true;
        }

        private boolean hasRoom(int width) {
            return brought + width <= BLOCK_MOST;
        }

        /** Appends a number's lowest bytes; false if the block would have too many then. */
        private boolean bring(long number, int width) {
            if (!hasRoom(width)) {
                return false;
            }
            brought += width;
            for (int i = width - 1; i >= 0; i--) {
                made.append((int) (number >> (8 * i)) & 255);
            }
            return true;
        }
    }
}
