/**
 * Reads small source files of a C-like language through its phases: trigraphs and joined lines,
 * tokens, directives, macros with hide sets, and a parser that has to know which names are types.
 *
 * <p>All rows are made with the object and used again by every translation, so that a translation
 * makes no object at all. Nothing throws: what can go wrong answers its code, or 0 for nothing.
 */
public final class PhaseReader {
    public static final int COMMENT = 1;
    public static final int CHARACTER = 2;
    public static final int DIRECTIVE = 3;
    public static final int CONDITION = 4;
    public static final int NESTING = 5;
    public static final int REDEFINED = 6;
    public static final int ROOM = 7;
    public static final int CALL = 8;
    public static final int PASTE = 9;
    public static final int NUMBER = 10;
    public static final int SYNTAX = 11;

    private static final int FILES = 3;

    private final Text[] files = new Text[FILES];
    private final Preprocessor preprocessor = new Preprocessor();
    private final Parser parser = new Parser();
    private int chosen;
    private int verdict;

    public PhaseReader() {
        for (int file = 0; file < FILES; file++) {
            files[file] = new Text();
        }
    }

    public boolean choose(int file) {
        if (!isFile(file)) {
            return false;
        }
        chosen = file;
        return true;
    }

    public boolean write(char c) {
        return files[chosen].add(c);
    }

    public void clear() {
        files[chosen].size = 0;
    }

    public int length(int file) {
        return isFile(file) ? files[file].size : -1;
    }

    public int translate(int file) {
        if (!isFile(file)) {
            return -1;
        }
        verdict = preprocessor.run(files, file);
        if (verdict == 0) {
            verdict = parser.parse(preprocessor.expander.out);
        } else {
            preprocessor.expander.out.size = 0;
            parser.tree.size = 0;
        }
        return verdict;
    }

    public int verdict() {
        return verdict;
    }

    public int tokens() {
        return preprocessor.expander.out.size;
    }

    public int place(int k) {
        return isToken(k) ? preprocessor.expander.out.placeAt(k) : -1;
    }

    public int spelling(int k, int i) {
        return isToken(k) ? TokenRow.letter(preprocessor.expander.out.text[k], i) : -1;
    }

    public int replaced() {
        return preprocessor.expander.replacedSoFar;
    }

    public int macros() {
        return preprocessor.expander.table.size;
    }

    public int nodes() {
        return parser.tree.size;
    }

    public int node(int k, int what) {
        Tree tree = parser.tree;
        if (k < 0 || k >= tree.size) {
            return Tree.NO_NODE;
        }
        switch (what) {
            case 0:
                return tree.kind[k];
            case 1:
                return tree.token[k];
            case 2:
                return tree.children[k];
            default:
                return Tree.NO_NODE;
        }
    }

    private static boolean isFile(int file) {
        return file >= 0 && file < FILES;
    }

    private boolean isToken(int k) {
        return k >= 0 && k < preprocessor.expander.out.size;
    }

    /** The characters of one file, as they were written. */
    private static final class Text {
        static final int MOST = 160;

        final char[] letters = new char[MOST];
        int size;

        boolean add(char c) {
            boolean mayStand = c == '\n' || c >= ' ' && c <= '~';
            if (size >= MOST || !mayStand) {
                return false;
            }
            letters[size] = c;
            size++;
            return true;
        }
    }

    /**
     * Tokens one behind the other. A spelling is kept as one number, seven bits a character with
     * the last one lowest: nine characters fit, and a token of one character is equal to it.
     */
    private static final class TokenRow {
        static final int LONGEST = 9;
        static final int BITS = 7;
        static final int LAST = 127;
        static final long PASTING = ('#' << BITS) + '#';
        static final int HIDES = 256;

        final long[] text;
        /** The place of each token times HIDES, and its hide set with a bit for each macro. */
        final int[] origin;
        int size;

        TokenRow(int most) {
            text = new long[most];
            origin = new int[most];
        }

        void add(long spelled, int place, int hide) {
            if (size < text.length) {
                text[size] = spelled;
                origin[size] = place * HIDES + hide;
                size++;
            }
        }

        int placeAt(int i) {
            return origin[i] / HIDES;
        }

        int hideAt(int i) {
            return origin[i] % HIDES;
        }

        /** Puts token i of another row, or of this one, behind this row. */
        void addFrom(TokenRow row, int i) {
            if (i >= 0 && i < row.size && size < text.length) {
                text[size] = row.text[i];
                origin[size] = row.origin[i];
                size++;
            }
        }

        /** Makes one token of the one at the seam and the one before it; false if that is none. */
        boolean joinAt(int seam, int place) {
            if (seam < 1 || seam >= size) {
                return false;
            }
            long left = text[seam - 1];
            long right = text[seam];
            boolean words = isWord(left) && isWord(right);
            boolean doubles = left == right && (left == '#' || left == '=');
            if (!words && !doubles || lengthOf(left) + lengthOf(right) > LONGEST) {
                return false;
            }
            text[seam - 1] = (left << BITS * lengthOf(right)) + right;
            origin[seam - 1] = place * HIDES + (hideAt(seam - 1) & hideAt(seam));
            System.arraycopy(text, seam + 1, text, seam, size - seam - 1);
            System.arraycopy(origin, seam + 1, origin, seam, size - seam - 1);
            size--;
            return true;
        }

        static int lengthOf(long spelled) {
            int length = 0;
            while (length < LONGEST && spelled >> BITS * length != 0) {
                length++;
            }
            return length;
        }

        /** Character i of a spelling, 0 where there is none. */
        static int letter(long spelled, int i) {
            int length = lengthOf(spelled);
            if (i < 0 || i >= length) {
                return 0;
            }
            return (int) (spelled >> BITS * (length - 1 - i)) & LAST;
        }

        static boolean spells(long spelled, String word) {
            long packed = 0;
            for (int i = 0; i < word.length(); i++) {
                packed = (packed << BITS) + word.charAt(i);
            }
            return spelled == packed;
        }

        /** Whether it is a NAME or a NUMBER: these alone end in a letter, a digit or _. */
        static boolean isWord(long spelled) {
            int c = (int) spelled & LAST;
            return c >= 'a' && c <= 'z' || c >= 'A' && c <= 'Z' || c >= '0' && c <= '9' || c == '_';
        }

        static boolean isNumber(long spelled) {
            long c = firstLetter(spelled);
            return c >= '0' && c <= '9';
        }

        static boolean isName(long spelled) {
            long c = firstLetter(spelled);
            return isWord(c) && (c < '0' || c > '9');
        }

        private static long firstLetter(long spelled) {
            long c = spelled;
            for (int i = 1; i < LONGEST && c > LAST; i++) {
                c >>= BITS;
            }
            return c;
        }
    }

    /** An open file: its tokens, how far its lines were gone through, and its conditionals. */
    private static final class Source {
        /** The shortest line that opens a conditional has nine characters. */
        static final int CONDITIONALS = Text.MOST / 9 + 1;

        int file;
        boolean isRead;
        final TokenRow row = new TokenRow(Text.MOST);
        final int[] line = new int[Text.MOST];
        /** Whether no white space stands between a token and the one before it. */
        final boolean[] glued = new boolean[Text.MOST];
        final boolean[] taken = new boolean[CONDITIONALS];
        final boolean[] elseSeen = new boolean[CONDITIONALS];
        /** The first token of the next line, and that of the group that is not yet expanded. */
        int next;
        int group;
        /** Conditionals that are open and not skipped whole; only the innermost can be skipping. */
        int open;
        boolean skipping;
        /** Conditionals that are open and skipped whole. */
        int wholes;

        void restart(int newFile) {
            file = newFile;
            isRead = false;
            row.size = 0;
            next = 0;
            group = 0;
            open = 0;
            skipping = false;
            wholes = 0;
        }

        void add(long spelled, int place, int lineNumber, boolean isGlued) {
            int i = row.size;
            if (i < Text.MOST) {
                line[i] = lineNumber;
                glued[i] = isGlued;
                row.add(spelled, place, 0);
            }
        }

        int lineEnd(int from) {
            int to = from;
            while (to < row.size && line[to] == line[from]) {
                to++;
            }
            return to;
        }

        /** Looks at a skipped line; true if it is an else or endif that must be obeyed. */
        boolean leavesSkipping(int from, int to) {
            if (row.text[from] != '#' || from + 1 >= to) {
                return false;
            }
            long name = row.text[from + 1];
            boolean ends = TokenRow.spells(name, "endif");
            if (TokenRow.spells(name, "ifdef") || TokenRow.spells(name, "ifndef")) {
                wholes++;
                return false;
            }
            if (wholes > 0) {
                wholes -= ends ? 1 : 0;
                return false;
            }
            return ends || TokenRow.spells(name, "else");
        }

        int openConditional(boolean holds) {
            if (open >= CONDITIONALS) {
                return CONDITION;
            }
            taken[open] = holds;
            elseSeen[open] = false;
            open++;
            skipping = !holds;
            return 0;
        }

        int turnToElse() {
            if (open == 0 || elseSeen[open - 1]) {
                return CONDITION;
            }
            elseSeen[open - 1] = true;
            skipping = taken[open - 1];
            return 0;
        }

        int closeConditional() {
            if (open == 0) {
                return CONDITION;
            }
            open--;
            skipping = false;
            return 0;
        }
    }

    /** Reads a file: trigraphs, joined lines, then tokens. */
    private static final class Scanner {
        private static final String TRIGRAPHS = "=/'()!<>-";
        private static final String MEANINGS = "#\\^[]|{}~";
        private static final String PUNCTUATORS = "()[]{};,=+-*/&<>#";
        private static final int FILE_STEP = 1000;

        /** One more than a file has, for the newline that may be put behind it. */
        private final char[] letters = new char[Text.MOST + 1];
        /** How many newlines stand before each letter in the file as it was written. */
        private final int[] newlines = new int[Text.MOST + 1];
        private int size;

        int read(Text text, Source source) {
            source.isRead = true;
            replaceTrigraphs(text);
            joinLines();
            return split(source);
        }

        private void replaceTrigraphs(Text text) {
            size = 0;
            int before = 0;
            for (int i = 0; i < text.size; i++) {
                int trigraph = trigraphAt(text, i);
                char c = text.letters[i];
                letters[size] = trigraph < 0 ? c : MEANINGS.charAt(trigraph);
                newlines[size] = before;
                size++;
                before += c == '\n' ? 1 : 0;
                i += trigraph < 0 ? 0 : 2;
            }
        }

        /** The number of the trigraph that begins at i, -1 for none. */
        private static int trigraphAt(Text text, int i) {
            if (i + 2 >= text.size || text.letters[i] != '?' || text.letters[i + 1] != '?') {
                return -1;
            }
            return TRIGRAPHS.indexOf(text.letters[i + 2]);
        }

        private void joinLines() {
            int kept = 0;
            for (int i = 0; i < size; i++) {
                if (letters[i] == '\\' && i + 1 < size && letters[i + 1] == '\n') {
                    i++;
                } else {
                    letters[kept] = letters[i];
                    newlines[kept] = newlines[i];
                    kept++;
                }
            }
            size = kept;
            if (size > 0 && letters[size - 1] != '\n') {
                letters[size] = '\n';
                size++;
            }
        }

        private int split(Source source) {
            int line = 0;
            boolean glued = false;
            int at = 0;
            for (int turn = 0; turn <= Text.MOST && at < size; turn++) {
                int end = blankEnd(at);
                if (end < 0) {
                    return COMMENT;
                }
                boolean blank = end > at;
                if (blank) {
                    line += letters[at] == '\n' ? 1 : 0;
                } else {
                    end = tokenEnd(at);
                    if (end == at || end - at > TokenRow.LONGEST) {
                        return CHARACTER;
                    }
                    int place = FILE_STEP * source.file + 1 + newlines[at];
                    source.add(pack(at, end), place, line, glued);
                }
                glued = !blank;
                at = end;
            }
            return 0;
        }

        /** The end of the white space that begins at a letter; the letter itself if there is none. */
        private int blankEnd(int at) {
            char c = letters[at];
            if (c == ' ' || c == '\n') {
                return at + 1;
            }
            char next = at + 1 < size ? letters[at + 1] : ' ';
            if (c == '/' && next == '*') {
                return longCommentEnd(at + 2);
            }
            return c == '/' && next == '/' ? newlineFrom(at) : at;
        }

        private int longCommentEnd(int from) {
            for (int i = from; i + 1 < size; i++) {
                if (letters[i] == '*' && letters[i + 1] == '/') {
                    return i + 2;
                }
            }
            return -1;
        }

        private int newlineFrom(int from) {
            int i = from;
            while (i < size && letters[i] != '\n') {
                i++;
            }
            return i;
        }

        /** The end of the token that begins at a letter; the letter itself if none does. */
        private int tokenEnd(int at) {
            char c = letters[at];
            if (PUNCTUATORS.indexOf(c) >= 0) {
                boolean twice = at + 1 < size && letters[at + 1] == c && (c == '#' || c == '=');
                return twice ? at + 2 : at + 1;
            }
            int end = at;
            while (end < size && TokenRow.isWord(letters[end])) {
                end++;
            }
            return end;
        }

        private long pack(int from, int to) {
            long spelled = 0;
            for (int i = from; i < to; i++) {
                spelled = (spelled << TokenRow.BITS) + letters[i];
            }
            return spelled;
        }
    }

    /** What a name stands for. */
    private static final class Macro {
        static final int MOST_PARAMETERS = 3;
        static final int MOST_BODY = 12;

        long name;
        boolean isCall;
        int parameters;
        final long[] parameter = new long[MOST_PARAMETERS];
        int size;
        final long[] body = new long[MOST_BODY];

        boolean pastesAt(int i) {
            return i >= 0 && i < size && body[i] == TokenRow.PASTING;
        }

        /** Which parameter stands at i of the body, -1 for none. */
        int parameterAt(int i) {
            for (int p = 0; p < parameters; p++) {
                if (parameter[p] == body[i]) {
                    return p;
                }
            }
            return -1;
        }
    }

    /** The macros that there are. The number of one changes only between groups. */
    private static final class MacroTable {
        static final int MOST = 8;

        final Macro[] macro = new Macro[MOST];
        int size;

        MacroTable() {
            for (int i = 0; i < MOST; i++) {
                macro[i] = new Macro();
            }
        }

        int find(long name) {
            for (int i = 0; i < size; i++) {
                if (macro[i].name == name) {
                    return i;
                }
            }
            return -1;
        }

        /**
         * Makes the name at a token a macro. The parameters stand from a token on, with a comma or
         * a closing parenthesis behind each (-1: a plain macro), then the body.
         */
        int define(TokenRow row, int nameAt, int parametersAt, int bodyAt, int end) {
            if (find(row.text[nameAt]) >= 0) {
                return REDEFINED;
            }
            int parameters = parametersAt < 0 ? 0 : (bodyAt - parametersAt) / 2;
            int length = end - bodyAt;
            if (parameters > Macro.MOST_PARAMETERS || length > Macro.MOST_BODY || size >= MOST) {
                return ROOM;
            }
            Macro made = macro[size];
            size++;
            made.name = row.text[nameAt];
            made.isCall = parametersAt >= 0;
            made.parameters = parameters;
            for (int p = 0; p < parameters; p++) {
                made.parameter[p] = row.text[parametersAt + 2 * p];
            }
            made.size = length;
            System.arraycopy(row.text, bodyAt, made.body, 0, length);
            return 0;
        }

        void undefine(long name) {
            int gone = find(name);
            if (gone >= 0) {
                size--;
                Macro last = macro[size];
                macro[size] = macro[gone];
                macro[gone] = last;
            }
        }
    }

    /** Where the arguments of one call stand: as they were, and expanded. */
    private static final class Arguments {
        /** In the pending tokens, which stand from right to left. */
        final int[] low = new int[Macro.MOST_PARAMETERS];
        final int[] high = new int[Macro.MOST_PARAMETERS];
        /** In the tokens that came out. */
        final int[] from = new int[Macro.MOST_PARAMETERS];
        final int[] to = new int[Macro.MOST_PARAMETERS];
        int count;
        /** The pending token that ends what is replaced. */
        int close;

        void add(int lowest, int behindHighest) {
            if (count < Macro.MOST_PARAMETERS) {
                low[count] = lowest;
                high[count] = behindHighest;
            }
            count++;
        }
    }

    /** Expands lists of tokens. */
    private static final class Expander {
        static final int MOST_OUT = 100;
        static final int MOST_REPLACED = 30;
        static final int MOST_IN_LIST = 40;
        /**
         * A token that is held comes from the group, or from one of those replaced: from its
         * arguments while they are expanded, or from its replacement.
         */
        private static final int MOST_HELD = Text.MOST + MOST_REPLACED * MOST_IN_LIST;
        /** Every token replaced puts up to two lists of tokens to those of the group. */
        private static final int MOST_TURNS = 2 * MOST_HELD;

        final MacroTable table = new MacroTable();
        final TokenRow out = new TokenRow(MOST_OUT);
        int replacedSoFar;
        /** The lists that are being expanded, each on top of the other, from right to left. */
        private final TokenRow pending = new TokenRow(MOST_HELD);
        /** What has come out of these lists, each on top of the other, from left to right. */
        private final TokenRow done = new TokenRow(MOST_HELD);
        private final TokenRow replacement = new TokenRow(Macro.MOST_BODY * MOST_IN_LIST);
        /** One for each list that can be open: inside each one of the replaced tokens counts. */
        private final Arguments[] arguments = new Arguments[MOST_REPLACED + 1];

        Expander() {
            for (int depth = 0; depth <= MOST_REPLACED; depth++) {
                arguments[depth] = new Arguments();
            }
        }

        void restart() {
            table.size = 0;
            out.size = 0;
            replacedSoFar = 0;
        }

        int expandGroup(TokenRow row, int from, int to) {
            pending.size = 0;
            done.size = 0;
            for (int i = to - 1; i >= from; i--) {
                pending.addFrom(row, i);
            }
            int wrong = expandList(0, 0);
            if (wrong != 0) {
                return wrong;
            }
            if (out.size + done.size > MOST_OUT) {
                return ROOM;
            }
            for (int i = 0; i < done.size; i++) {
                out.addFrom(done, i);
            }
            return 0;
        }

        /** Expands the pending tokens from the base on; they come out behind those that are done. */
        private int expandList(int base, int depth) {
            int wrong = depth > MOST_REPLACED ? ROOM : 0;
            for (int turn = 0; turn < MOST_TURNS && pending.size > base && wrong == 0; turn++) {
                int which = macroOnTop(base);
                if (which < 0) {
                    done.addFrom(pending, pending.size - 1);
                    pending.size--;
                } else {
                    wrong = replaceTop(which, base, depth);
                }
            }
            return wrong;
        }

        /** The macro that the first pending token is to be replaced by, -1 for none. */
        private int macroOnTop(int base) {
            int top = pending.size - 1;
            int which = table.find(pending.text[top]);
            if (which < 0 || (pending.hideAt(top) >> which & 1) == 1) {
                return -1;
            }
            boolean opens = top > base && pending.text[top - 1] == '(';
            return opens || !table.macro[which].isCall ? which : -1;
        }

        private int replaceTop(int which, int base, int depth) {
            Macro macro = table.macro[which];
            Arguments found = arguments[depth];
            int top = pending.size - 1;
            found.count = 0;
            found.close = top;
            int wrong = macro.isCall ? findArguments(macro, found, base) : 0;
            if (wrong != 0) {
                return wrong;
            }
            if (replacedSoFar >= MOST_REPLACED) {
                return ROOM;
            }
            replacedSoFar++;
            int mark = done.size;
            for (int p = 0; p < macro.parameters && wrong == 0; p++) {
                wrong = expandArgument(found, p, depth);
            }
            if (wrong == 0) {
                wrong = makeReplacement(macro, found, pending.placeAt(top));
            }
            if (wrong == 0) {
                int hide = pending.hideAt(top) & pending.hideAt(found.close) | 1 << which;
                done.size = mark;
                pending.size = found.close;
                pushReplacement(hide);
            }
            return wrong;
        }

        private int findArguments(Macro macro, Arguments found, int base) {
            int first = pending.size - 3;
            int inner = 0;
            int high = first + 1;
            found.close = -1;
            for (int i = first; i >= base && found.close < 0; i--) {
                long text = pending.text[i];
                boolean ends = inner == 0 && text == ')';
                if (ends || inner == 0 && text == ',') {
                    found.add(i + 1, high);
                    high = i;
                }
                found.close = ends ? i : -1;
                inner += text == '(' ? 1 : text == ')' ? -1 : 0;
            }
            if (found.close < 0) {
                return CALL;
            }
            int between = first - found.close;
            int count = between == 0 && macro.parameters == 0 ? 0 : found.count;
            if (count != macro.parameters) {
                return CALL;
            }
            return between > MOST_IN_LIST ? ROOM : 0;
        }

        private int expandArgument(Arguments found, int p, int depth) {
            int base = pending.size;
            int mark = done.size;
            for (int i = found.low[p]; i < found.high[p]; i++) {
                pending.addFrom(pending, i);
            }
            int wrong = expandList(base, depth + 1);
            found.from[p] = mark;
            found.to[p] = done.size;
            if (wrong == 0 && done.size - mark > MOST_IN_LIST) {
                wrong = ROOM;
            }
            return wrong;
        }

        private int makeReplacement(Macro macro, Arguments found, int place) {
            replacement.size = 0;
            int chain = 0;
            for (int i = 0; i < macro.size; i++) {
                int seam = replacement.size;
                boolean chained = macro.pastesAt(i - 1);
                chain = chained ? chain : seam;
                addRow(macro, i, found, place);
                boolean joins = chained && seam > chain && replacement.size > seam;
                if (joins && !replacement.joinAt(seam, place)) {
                    return PASTE;
                }
                i += macro.pastesAt(i + 1) ? 1 : 0;
            }
            return replacement.size > MOST_IN_LIST ? ROOM : 0;
        }

        /** Puts what token i of the body gives behind the replacement. */
        private void addRow(Macro macro, int i, Arguments found, int place) {
            int p = macro.parameterAt(i);
            if (p < 0) {
                replacement.add(macro.body[i], place, 0);
            } else if (macro.pastesAt(i - 1) || macro.pastesAt(i + 1)) {
                for (int k = found.high[p] - 1; k >= found.low[p]; k--) {
                    replacement.addFrom(pending, k);
                }
            } else {
                for (int k = found.from[p]; k < found.to[p]; k++) {
                    replacement.addFrom(done, k);
                }
            }
        }

        private void pushReplacement(int hide) {
            for (int i = replacement.size - 1; i >= 0; i--) {
                int hidden = replacement.hideAt(i) | hide;
                pending.add(replacement.text[i], replacement.placeAt(i), hidden);
            }
        }
    }

    /** Goes through the lines of files and obeys their directives. */
    private static final class Preprocessor {
        private static final int MOST_OPEN = 4;
        private static final int MOST_INCLUDES = 10;
        /** Every file that is opened is read, has at most as many lines as letters, and ends. */
        private static final int MOST_STEPS = (MOST_INCLUDES + 1) * (Text.MOST + 2);

        final Expander expander = new Expander();
        private final Scanner scanner = new Scanner();
        /** The open files, each included from the one before it. */
        private final Source[] sources = new Source[MOST_OPEN];
        private int level;
        private int includes;

        Preprocessor() {
            for (int i = 0; i < MOST_OPEN; i++) {
                sources[i] = new Source();
            }
        }

        int run(Text[] files, int file) {
            expander.restart();
            includes = 0;
            level = 0;
            sources[0].restart(file);
            int wrong = 0;
            for (int step = 0; step < MOST_STEPS && level >= 0 && wrong == 0; step++) {
                Source source = sources[level];
                if (!source.isRead) {
                    wrong = scanner.read(files[source.file], source);
                } else if (source.next < source.row.size) {
                    wrong = takeLine(source);
                } else {
                    wrong = endFile(source);
                }
            }
            return wrong;
        }

        private int takeLine(Source source) {
            int from = source.next;
            int to = source.lineEnd(from);
            source.next = to;
            if (source.skipping && !source.leavesSkipping(from, to)) {
                source.group = to;
                return 0;
            }
            if (source.row.text[from] != '#') {
                return 0;
            }
            int wrong = expander.expandGroup(source.row, source.group, from);
            source.group = to;
            return wrong == 0 ? obey(source, from + 1, to) : wrong;
        }

        private int endFile(Source source) {
            int wrong = expander.expandGroup(source.row, source.group, source.row.size);
            level--;
            return wrong == 0 && source.open > 0 ? CONDITION : wrong;
        }

        /** Obeys the directive whose tokens behind the # are those from at to to. */
        private int obey(Source source, int at, int to) {
            if (at >= to) {
                return 0;
            }
            long word = source.row.text[at];
            boolean alone = at + 1 == to;
            if (TokenRow.spells(word, "define")) {
                return define(source, at + 1, to);
            }
            if (TokenRow.spells(word, "include")) {
                return include(source.row, at + 1, to);
            }
            if (TokenRow.spells(word, "else")) {
                return alone ? source.turnToElse() : DIRECTIVE;
            }
            if (TokenRow.spells(word, "endif")) {
                return alone ? source.closeConditional() : DIRECTIVE;
            }
            if (at + 2 != to || !TokenRow.isName(source.row.text[at + 1])) {
                return DIRECTIVE;
            }
            return obeyNamed(source, word, source.row.text[at + 1]);
        }

        private int obeyNamed(Source source, long word, long name) {
            if (TokenRow.spells(word, "undef")) {
                expander.table.undefine(name);
                return 0;
            }
            boolean isMacro = expander.table.find(name) >= 0;
            if (TokenRow.spells(word, "ifdef")) {
                return source.openConditional(isMacro);
            }
            if (TokenRow.spells(word, "ifndef")) {
                return source.openConditional(!isMacro);
            }
            return DIRECTIVE;
        }

        private int include(TokenRow row, int at, int to) {
            if (at + 3 != to || row.text[at] != '<' || row.text[at + 2] != '>') {
                return DIRECTIVE;
            }
            long digit = row.text[at + 1];
            if (digit < '0' || digit >= '0' + FILES) {
                return DIRECTIVE;
            }
            if (level + 1 >= MOST_OPEN || includes >= MOST_INCLUDES) {
                return NESTING;
            }
            includes++;
            level++;
            sources[level].restart((int) (digit - '0'));
            return 0;
        }

        private int define(Source source, int at, int to) {
            TokenRow row = source.row;
            if (at >= to || !TokenRow.isName(row.text[at])) {
                return DIRECTIVE;
            }
            boolean isCall = at + 1 < to && row.text[at + 1] == '(' && source.glued[at + 1];
            int parametersAt = isCall ? at + 2 : -1;
            int bodyAt = isCall ? parametersEnd(row, parametersAt, to) : at + 1;
            if (bodyAt < 0 || !isBody(row, bodyAt, to)) {
                return DIRECTIVE;
            }
            return expander.table.define(row, at, parametersAt, bodyAt, to);
        }

        /** The token behind the parenthesis that closes the parameters, -1 if they are not right. */
        private static int parametersEnd(TokenRow row, int at, int to) {
            if (at < to && row.text[at] == ')') {
                return at + 1;
            }
            for (int i = at; i + 1 < to; i += 2) {
                if (!TokenRow.isName(row.text[i]) || isRepeated(row, at, i)) {
                    return -1;
                }
                if (row.text[i + 1] == ')') {
                    return i + 2;
                }
                if (row.text[i + 1] != ',') {
                    return -1;
                }
            }
            return -1;
        }

        private static boolean isRepeated(TokenRow row, int first, int at) {
            for (int i = first; i < at; i += 2) {
                if (row.text[i] == row.text[at]) {
                    return true;
                }
            }
            return false;
        }

        private static boolean isBody(TokenRow row, int from, int to) {
            for (int i = from; i < to; i++) {
                boolean atEdge = i == from || i == to - 1;
                boolean pastes = row.text[i] == TokenRow.PASTING;
                if (pastes && (atEdge || row.text[i + 1] == TokenRow.PASTING)) {
                    return false;
                }
            }
            return true;
        }
    }

    /**
     * The nodes in their order. A node is known by where it stands and how many children it has, so
     * one that is seen to be needed only behind its first child is put in before that child.
     */
    private static final class Tree {
        static final int NO_NODE = -2;
        static final int UNIT = 0;
        static final int DECLARATION = 1;
        static final int TYPEDEF = 2;
        static final int TYPE = 3;
        static final int DECLARATOR = 4;
        static final int ARRAY = 5;
        static final int FUNCTION = 6;
        static final int POINTER = 7;
        static final int DEFINITION = 8;
        static final int BLOCK = 9;
        static final int STATEMENT = 10;
        static final int RETURN = 11;
        static final int BINARY = 12;
        static final int PREFIX = 13;
        static final int CAST = 14;
        static final int INDEX = 15;
        static final int CALLING = 16;
        static final int NAMED = 17;
        static final int NUMERAL = 18;
        /** Besides the unit a token makes at most two nodes: a declaration and its type. */
        private static final int MOST = 2 * Expander.MOST_OUT + 1;

        final int[] kind = new int[MOST];
        final int[] token = new int[MOST];
        final int[] children = new int[MOST];
        int size;

        /** At first it is the tree of an empty file. */
        Tree() {
            token[0] = -1;
            size = 1;
        }

        int add(int nodeKind, int nodeToken, int nodeChildren) {
            int at = Math.min(size, MOST - 1);
            kind[at] = nodeKind;
            token[at] = nodeToken;
            children[at] = nodeChildren;
            size = at + 1;
            return at;
        }

        void insert(int at, int nodeKind, int nodeToken, int nodeChildren) {
            if (at < 0 || at > size || size >= MOST) {
                return;
            }
            System.arraycopy(kind, at, kind, at + 1, size - at);
            System.arraycopy(token, at, token, at + 1, size - at);
            System.arraycopy(children, at, children, at + 1, size - at);
            kind[at] = nodeKind;
            token[at] = nodeToken;
            children[at] = nodeChildren;
            size++;
        }
    }

    /** Parses what came out. Its methods answer whether what they look for stands there. */
    private static final class Parser {
        private static final int MOST_BRACKETS = 6;
        /** Every further level stands in a bracket of its own. */
        private static final int DEEPEST = 2 * MOST_BRACKETS;
        private static final int STRONGEST = 4;
        /** What a word is: a keyword of a type, another one, a NAME or a NUMBER; 0 is no word. */
        private static final int TYPE_WORD = 1;
        private static final int TYPEDEF_WORD = 2;
        private static final int RETURN_WORD = 3;
        private static final int NAME_WORD = 4;
        private static final int NUMBER_WORD = 5;

        final Tree tree = new Tree();
        private final long[] text = new long[Expander.MOST_OUT + 1];
        private final int[] word = new int[Expander.MOST_OUT + 1];
        private int size;
        private int at;
        /** The declarations that count, the later ones behind. */
        private final long[] declared = new long[Expander.MOST_OUT];
        private final boolean[] isType = new boolean[Expander.MOST_OUT];
        private int declarations;

        int parse(TokenRow row) {
            load(row);
            tree.size = 0;
            if (hasOddNumber()) {
                return NUMBER;
            }
            if (isTooDeep()) {
                return ROOM;
            }
            if (!takeUnit()) {
                tree.size = 0;
                return SYNTAX;
            }
            return 0;
        }

        /** Behind the tokens stands one that is nothing, so that the next one can be looked at. */
        private void load(TokenRow row) {
            size = Math.min(row.size, Expander.MOST_OUT);
            for (int i = 0; i < size; i++) {
                text[i] = row.text[i];
                word[i] = wordOf(row.text[i]);
            }
            text[size] = 0;
            word[size] = 0;
            at = 0;
            declarations = 0;
        }

        private static int wordOf(long spelled) {
            if (!TokenRow.isWord(spelled)) {
                return 0;
            }
            if (TokenRow.isNumber(spelled)) {
                return NUMBER_WORD;
            }
            if (TokenRow.spells(spelled, "int") || TokenRow.spells(spelled, "char")) {
                return TYPE_WORD;
            }
            if (TokenRow.spells(spelled, "typedef")) {
                return TYPEDEF_WORD;
            }
            return TokenRow.spells(spelled, "return") ? RETURN_WORD : NAME_WORD;
        }

        private boolean hasOddNumber() {
            for (int i = 0; i < size; i++) {
                int length = word[i] == NUMBER_WORD ? TokenRow.lengthOf(text[i]) : 0;
                for (int k = 0; k < length; k++) {
                    if (TokenRow.letter(text[i], k) > '9') {
                        return true;
                    }
                }
            }
            return false;
        }

        private boolean isTooDeep() {
            int open = 0;
            for (int i = 0; i < size; i++) {
                long c = text[i];
                if (c == '(' || c == '[' || c == '{') {
                    open++;
                } else if (open > 0 && (c == ')' || c == ']' || c == '}')) {
                    open--;
                }
                if (open > MOST_BRACKETS) {
                    return true;
                }
            }
            return false;
        }

        /** Goes on if the next token is this punctuator of one character. */
        private boolean take(char c) {
            boolean stands = text[at] == c;
            at += stands ? 1 : 0;
            return stands;
        }

        private boolean isTypeAt(int i) {
            if (i >= size || word[i] != NAME_WORD) {
                return i < size && word[i] == TYPE_WORD;
            }
            for (int k = declarations - 1; k >= 0; k--) {
                if (declared[k] == text[i]) {
                    return isType[k];
                }
            }
            return false;
        }

        private boolean startsDeclaration() {
            return word[at] == TYPEDEF_WORD || isTypeAt(at);
        }

        private boolean takeUnit() {
            tree.add(Tree.UNIT, -1, 0);
            for (int turn = 0; turn < size && at < size; turn++) {
                if (!startsDeclaration() || !takeDeclaration(true, 0)) {
                    return false;
                }
                tree.children[0]++;
            }
            return at >= size;
        }

        /** A declaration or, where there may be one, a definition. */
        private boolean takeDeclaration(boolean mayDefine, int depth) {
            boolean isTypedef = word[at] == TYPEDEF_WORD;
            int start = tree.add(isTypedef ? Tree.TYPEDEF : Tree.DECLARATION, at, 1);
            at += isTypedef ? 1 : 0;
            if (!takeType()) {
                return false;
            }
            for (int turn = 0; turn < size; turn++) {
                int declarator = tree.size;
                if (!takeDeclarator(0)) {
                    return false;
                }
                tree.children[start]++;
                declare(declarator, isTypedef);
                boolean defines = mayDefine && !isTypedef && turn == 0 && text[at] == '{';
                if (defines) {
                    tree.kind[start] = Tree.DEFINITION;
                    tree.children[start]++;
                    return isFunction(declarator) && takeBlock(depth + 1);
                }
                if (!isTypedef && take('=')) {
                    tree.children[declarator]++;
                    if (!takeExpression(depth + 1)) {
                        return false;
                    }
                }
                if (!take(',')) {
                    return take(';');
                }
            }
            return false;
        }

        private boolean takeType() {
            if (!isTypeAt(at)) {
                return false;
            }
            tree.add(Tree.TYPE, at, 0);
            at++;
            return true;
        }

        /** Only forms stand behind the node of the declarator, which is the last that was taken. */
        private void declare(int declarator, boolean isTypedef) {
            tree.children[declarator] = tree.size - declarator - 1;
            if (declarations < declared.length) {
                declared[declarations] = text[tree.token[declarator]];
                isType[declarations] = isTypedef;
                declarations++;
            }
        }

        private boolean isFunction(int declarator) {
            int first = declarator + 1;
            return tree.children[declarator] > 0 && tree.kind[first] == Tree.FUNCTION;
        }

        private boolean takeDeclarator(int depth) {
            int firstStar = at;
            while (at < size && text[at] == '*') {
                at++;
            }
            int behindStars = at;
            if (word[at] == NAME_WORD) {
                tree.add(Tree.DECLARATOR, at, 0);
                at++;
            } else if (depth >= DEEPEST || !take('(') || !takeDeclarator(depth + 1) || !take(')')) {
                return false;
            }
            if (!takeForms()) {
                return false;
            }
            for (int star = behindStars - 1; star >= firstStar; star--) {
                tree.add(Tree.POINTER, star, 0);
            }
            return true;
        }

        /** The forms behind a name, or behind a declarator in parentheses. */
        private boolean takeForms() {
            for (int turn = 0; turn < size; turn++) {
                int start = at;
                if (take('(')) {
                    tree.add(Tree.FUNCTION, start, 0);
                    if (!take(')')) {
                        return false;
                    }
                } else if (take('[')) {
                    tree.add(Tree.ARRAY, at, 0);
                    boolean isNumber = word[at] == NUMBER_WORD;
                    at += isNumber ? 1 : 0;
                    if (!isNumber || !take(']')) {
                        return false;
                    }
                } else {
                    return true;
                }
            }
            return true;
        }

        private boolean takeBlock(int depth) {
            int start = tree.add(Tree.BLOCK, at, 0);
            int outer = declarations;
            if (depth > DEEPEST || !take('{')) {
                return false;
            }
            for (int turn = 0; turn < size; turn++) {
                if (take('}')) {
                    declarations = outer;
                    return true;
                }
                boolean declares = startsDeclaration();
                if (declares ? !takeDeclaration(false, depth) : !takeStatement(depth)) {
                    return false;
                }
                tree.children[start]++;
            }
            return false;
        }

        private boolean takeStatement(int depth) {
            if (text[at] == '{') {
                return takeBlock(depth + 1);
            }
            boolean returns = word[at] == RETURN_WORD;
            int start = tree.add(returns ? Tree.RETURN : Tree.STATEMENT, at, 0);
            at += returns ? 1 : 0;
            if (text[at] != ';') {
                tree.children[start] = 1;
                if (!takeExpression(depth + 1)) {
                    return false;
                }
            }
            if (!returns) {
                tree.token[start] = at;
            }
            return take(';');
        }

        /** Each = takes all that stands behind it as its right side. */
        private boolean takeExpression(int depth) {
            if (depth > DEEPEST) {
                return false;
            }
            for (int turn = 0; turn < size; turn++) {
                int start = tree.size;
                if (!takeBinary(1, depth)) {
                    return false;
                }
                if (text[at] != '=') {
                    return true;
                }
                tree.insert(start, Tree.BINARY, at, 2);
                at++;
            }
            return false;
        }

        /** Operands with operators of this strength or a greater one. */
        private boolean takeBinary(int strength, int depth) {
            if (strength > STRONGEST) {
                return takeOperand(depth);
            }
            int start = tree.size;
            for (int turn = 0; turn < size; turn++) {
                if (!takeBinary(strength + 1, depth)) {
                    return false;
                }
                if (strengthOf(text[at]) != strength) {
                    return true;
                }
                tree.insert(start, Tree.BINARY, at, 2);
                at++;
            }
            return false;
        }

        private static int strengthOf(long operator) {
            if (operator == '*' || operator == '/') {
                return STRONGEST;
            }
            if (operator == '+' || operator == '-') {
                return 3;
            }
            if (operator == '<' || operator == '>') {
                return 2;
            }
            return TokenRow.spells(operator, "==") ? 1 : 0;
        }

        private boolean takeOperand(int depth) {
            for (int turn = 0; turn < size; turn++) {
                long c = text[at];
                if (c == '-' || c == '*' || c == '&') {
                    tree.add(Tree.PREFIX, at, 1);
                    at++;
                } else if (c != '(' || !isTypeAt(at + 1)) {
                    break;
                } else if (!takeCast()) {
                    return false;
                }
            }
            int start = tree.size;
            return takePrimary(depth) && takePostfixes(start, depth);
        }

        private boolean takeCast() {
            int start = tree.add(Tree.CAST, at, 2);
            at++;
            if (!takeType()) {
                return false;
            }
            while (at < size && text[at] == '*') {
                tree.add(Tree.POINTER, at, 0);
                tree.children[start]++;
                at++;
            }
            return take(')');
        }

        private boolean takePrimary(int depth) {
            if (take('(')) {
                return takeExpression(depth + 1) && take(')');
            }
            boolean isNumber = word[at] == NUMBER_WORD;
            boolean isVariable = word[at] == NAME_WORD && !isTypeAt(at);
            tree.add(isNumber ? Tree.NUMERAL : Tree.NAMED, at, 0);
            at += isNumber || isVariable ? 1 : 0;
            return isNumber || isVariable;
        }

        private boolean takePostfixes(int start, int depth) {
            for (int turn = 0; turn < size; turn++) {
                int opening = at;
                if (take('[')) {
                    tree.insert(start, Tree.INDEX, opening, 2);
                    if (!takeExpression(depth + 1) || !take(']')) {
                        return false;
                    }
                } else if (take('(')) {
                    tree.insert(start, Tree.CALLING, opening, 1);
                    if (!take(')') && !takeArguments(start, depth)) {
                        return false;
                    }
                } else {
                    return true;
                }
            }
            return true;
        }

        private boolean takeArguments(int call, int depth) {
            for (int turn = 0; turn < size; turn++) {
                if (!takeExpression(depth + 1)) {
                    return false;
                }
                tree.children[call]++;
                if (!take(',')) {
                    return take(')');
                }
            }
            return false;
        }
    }
}
