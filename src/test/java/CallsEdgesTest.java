/** The edges of "What it is", of FILES and of promises 1 to 6, a sentence of the document a method. */
public final class CallsEdgesTest {
    private static final int FULL = 160;
    private static final String UNIT = "#define a 1\nint x=a;";
    /** Files that tell of every change: each has its own length, and tokens to its last character. */
    private static final String[] FILES = {UNIT, "typedef char T;T y", "#include <1>\n;T*z"};
    /** For each code a file 0 that answers it (code 0 first). */
    private static final String[] CODES = {"int x;", "/*", "$", "#x", "#else", "#include <0>", "#define a\n#define a",
        "#define a\na a\n#define f(p,q,r,s)", "#define f()\nf(", "#define a +##+\na", "int x=1y;", "int"};

    public static void main(String[] args) {
        newObject();
        allCallsOfAnObject();
        fillsInAllCalls();
        chooses();
        choosesNoFile();
        firstChosen();
        writesCodes();
        writesNoOtherCodes();
        writesUntilFull();
        clears();
        lengths();
        translatesNoFile();
        translatesEachFile();
        translatesEmptyFiles();
        translatesWithoutMacros();
        latestTranslation();
        Check.end();
    }

    /** "Empty files; nothing was translated." */
    private static void newObject() {
        Reader reader = new Reader();
        Check.due("a new object", Check.everything(reader), "0  /  / 0 0 / 0:-1 lengths 0 0 0 lengths 0 0 0 "
            + "lengths 3 0 0 file 0 0 0  /  / 0 0 / 0:-1 file 1 0 0  /  / 0 0 / 0:-1 file 2 0 0  /  / 0 0 / 0:-1");
    }

    /** "An object is used for at most 512 calls after it has been made": so the 512th is promised too. */
    private static void allCallsOfAnObject() {
        PhaseReader reader = new PhaseReader();
        int calls = 0;
        for (char c : UNIT.toCharArray()) {
            Check.due("write as call " + (++calls), reader.write(c), true);
        }
        while (calls < Reader.MOST_CALLS - 7) {
            Check.due("translate as call " + (++calls), reader.translate(0), 0);
        }
        Check.due("tokens as call 506", reader.tokens(), 5);
        Check.due("replaced as call 507", reader.replaced(), 1);
        Check.due("nodes as call 508", reader.nodes(), 5);
        Check.due("choose as call 509", reader.choose(1), true);
        Check.due("write as call 510", reader.write('x'), true);
        Check.due("translate as call 511", reader.translate(1), PhaseReader.SYNTAX);
        Check.due("verdict as call 512", reader.verdict(), PhaseReader.SYNTAX);
    }

    /** The same, with all the writes that three files can take, and as many as are left refused. */
    private static void fillsInAllCalls() {
        PhaseReader reader = new PhaseReader();
        int calls = 0;
        for (int file = 0; file < 3; file++) {
            Check.due("choose as call " + (++calls), reader.choose(file), true);
            for (int i = 0; i < FULL; i++) {
                Check.due("write as call " + (++calls), reader.write(' '), true);
            }
        }
        while (calls < Reader.MOST_CALLS - 4) {
            Check.due("write as call " + (++calls), reader.write(' '), false);
        }
        Check.due("translate as call 509", reader.translate(2), 0);
        Check.due("length as call 510", reader.length(0), FULL);
        Check.due("length as call 511", reader.length(1), FULL);
        Check.due("length as call 512", reader.length(2), FULL);
    }

    /** "Chooses the file to which write and clear belong". */
    private static void chooses() {
        for (int file = 0; file < 3; file++) {
            Reader reader = Check.with("a", "bb", "cccc");
            Check.due("choose(" + file + ")", reader.choose(file), true);
            Check.due("write", reader.write('x'), true);
            int[] lengths = {1, 2, 4};
            lengths[file]++;
            dueLengths("write behind choose(" + file + ")", reader, lengths);
            reader.clear();
            lengths[file] = 0;
            dueLengths("clear behind choose(" + file + ")", reader, lengths);
            Check.due("choose it again", reader.choose(file), true);
            dueLengths("choose alone", reader, lengths);
        }
    }

    /** "false, changing nothing, when there is no such file." */
    private static void choosesNoFile() {
        for (int file : Check.outside(3)) {
            Check.due("choose(" + file + ") at first", new Reader().choose(file), false);
        }
        for (int chosen = 0; chosen < 3; chosen++) {
            for (int file : new int[] {-1, 3, Integer.MIN_VALUE, Integer.MAX_VALUE, 256, -256}) {
                Reader reader = Check.translated(FILES);
                reader.choose(chosen);
                Check.changesNothing("choose(" + file + ") behind choose(" + chosen + ")", reader,
                    () -> Check.due("choose(" + file + ")", reader.choose(file), false));
            }
        }
        Reader reader = new Reader();
        Check.changesNothing("choose(3) at first", reader, () -> Check.due("choose(3)", reader.choose(3), false));
        Check.changesNothing("choose(-1) at first", reader, () -> Check.due("choose(-1)", reader.choose(-1), false));
    }

    /** "At first it is 0." */
    private static void firstChosen() {
        Reader reader = new Reader();
        Check.due("write at first", reader.write('x'), true);
        dueLengths("write at first", reader, 1, 0, 0);
        reader.clear();
        dueLengths("clear at first", reader, 0, 0, 0);
        Reader translated = new Reader();
        translated.translate(2);
        Check.due("write behind translate(2)", translated.write('x'), true);
        dueLengths("write behind translate(2)", translated, 1, 0, 0);
    }

    /** "codes 10, the newline, and 32 .. 126": each of them is taken, and kept as it is. */
    private static void writesCodes() {
        for (int code = 10; code <= 126; code = code == 10 ? 32 : code + 1) {
            String file = "a" + (char) code + "b " + (char) code + "/**/";
            Reader reader = Check.with(file);
            Check.due("length with code " + code, reader.length(0), file.length());
            reader.translate(0);
            Check.due("outcome of code " + code, Check.outcome(reader), new Model(file, "", "").outcome(0));
        }
    }

    /** "false, changing nothing, when .. c is not one of those that may be there." */
    private static void writesNoOtherCodes() {
        for (int high = 0; high < 256; high++) {
            PhaseReader reader = new PhaseReader();
            int taken = 0;
            for (int low = 0; low < 256; low++) {
                int code = 256 * high + low;
                boolean may = code == 10 || code >= 32 && code <= 126;
                Check.due("write of code " + code, reader.write((char) code), may);
                taken += may ? 1 : 0;
            }
            Check.due("taken of codes from " + 256 * high, reader.length(0), taken);
        }
        for (int code : new int[] {0, 9, 11, 13, 31, 127, 128, 160, 255, 256 + 10, 256 + 'x', 0xff00 + 'x', 0xffff}) {
            Reader reader = Check.translated(FILES);
            Check.changesNothing("write of code " + code, reader,
                () -> Check.due("write of code " + code, reader.write((char) code), false));
        }
        Reader full = Check.with(" ".repeat(FULL - 1) + "x");
        Check.changesNothing("write of code 9 into a full file", full,
            () -> Check.due("write of code 9", full.write('\t'), false));
    }

    /** "at most 160 each" and "false, changing nothing, when it has 160". */
    private static void writesUntilFull() {
        for (int file = 0; file < 3; file++) {
            Reader reader = Check.with("int a;", "int b;", "int c;");
            Check.put(reader, file, "int x" + " ".repeat(FULL - 7));
            Check.due("length of a file that is almost full", reader.length(file), FULL - 2);
            Check.due("write number 159", reader.write(';'), true);
            Check.due("length with 159", reader.length(file), FULL - 1);
            Check.due("write number 160", reader.write(' '), true);
            Check.due("length with 160", reader.length(file), FULL);
            reader.translate(file);
            Check.due("verdict of a full file", reader.verdict(), 0);
            for (char c : new char[] {' ', '\n', 'x', '~'}) {
                Check.changesNothing("write into a full file", reader,
                    () -> Check.due("write number 161", reader.write(c), false));
            }
            reader.choose((file + 1) % 3);
            Check.due("write into another file", reader.write(';'), true);
            Check.due("length of the other file", reader.length((file + 1) % 3), 7);
        }
    }

    /** "Makes the text of the chosen file empty." */
    private static void clears() {
        for (int file = 0; file < 3; file++) {
            for (String text : new String[] {"", "x", ";".repeat(FULL - 1), ";".repeat(FULL)}) {
                Reader reader = Check.with("int a;", "int bb;", "int ccc;");
                reader.translate(1);
                String outcome = Check.outcome(reader);
                Check.put(reader, file, text);
                reader.clear();
                int[] lengths = {6, 7, 8};
                lengths[file] = 0;
                dueLengths("clear of " + text.length(), reader, lengths);
                Check.due("outcome behind clear", Check.outcome(reader), outcome);
                Check.due("write behind clear", reader.write('y'), true);
                lengths[file] = 1;
                dueLengths("write behind clear of " + text.length(), reader, lengths);
                reader.translate(file);
                Check.due("text behind clear", Check.words(reader), "y");
            }
        }
        Reader reader = Check.with("x".repeat(9) + " ".repeat(FULL - 9));
        reader.clear();
        Check.add(reader, " ".repeat(FULL - 1));
        Check.due("write number 160 behind clear", reader.write(' '), true);
        Check.due("write number 161 behind clear", reader.write(' '), false);
        Check.due("length behind all this", reader.length(0), FULL);
    }

    /** "The number of characters of a file; -1 when there is no such file." */
    private static void lengths() {
        Reader reader = Check.with("", "x", "??=\\\n/*\n");
        dueLengths("texts as they were written", reader, 0, 1, 8);
        for (int file : Check.outside(3)) {
            Check.due("length(" + file + ")", reader.length(file), -1);
            Check.due("length(" + file + ") of a new object", new Reader().length(file), -1);
        }
        reader.translate(2);
        dueLengths("texts behind translate", reader, 0, 1, 8);
        Check.changesNothing("length(3)", reader, () -> Check.due("length(3)", reader.length(3), -1));
    }

    /** "-1, changing nothing, when there is no such file." */
    private static void translatesNoFile() {
        for (int file : Check.outside(3)) {
            Check.due("translate(" + file + ") at first", new Reader().translate(file), -1);
        }
        Reader fresh = new Reader();
        Check.changesNothing("translate(3) at first", fresh, () -> Check.due("translate(3)", fresh.translate(3), -1));
        Reader written = Check.with(FILES);
        Check.changesNothing("translate(-1) of files", written, () -> Check.due("translate(-1)", written.translate(-1),
            -1));
        for (int code = 0; code < CODES.length; code++) {
            for (int file : new int[] {-1, 3, Integer.MIN_VALUE, Integer.MAX_VALUE}) {
                Reader reader = Check.with(CODES[code], FILES[1], FILES[2]);
                Check.due("translate of " + CODES[code], reader.translate(0), code);
                Check.changesNothing("translate(" + file + ") behind code " + code, reader,
                    () -> Check.due("translate(" + file + ")", reader.translate(file), -1));
                Check.due("verdict behind translate(" + file + ")", reader.verdict(), code);
            }
        }
    }

    /** "Translates a file". */
    private static void translatesEachFile() {
        for (int file = 0; file < 3; file++) {
            Reader reader = Check.with("int a;", "int bb;", "int ccc");
            Check.due("translate(" + file + ")", reader.translate(file), file == 2 ? PhaseReader.SYNTAX : 0);
            String[] words = {"int a ;", "int bb ;", "int ccc"};
            Check.due("words of file " + file, Check.words(reader), words[file]);
            Check.due("place in file " + file, reader.place(0), 1000 * file + 1);
            Check.changesNothing("the same translation again", reader, () -> reader.translate(reader.place(0) / 1000));
        }
    }

    /** "before the first one, all is as after that of an empty file." */
    private static void translatesEmptyFiles() {
        for (int file = 0; file < 3; file++) {
            Reader before = new Reader();
            Reader behind = new Reader();
            Check.due("translate of an empty file", behind.translate(file), 0);
            Check.due("outcome of file " + file, Check.outcome(behind), Check.outcome(before));
            for (int what = -1; what <= 3; what++) {
                Check.due("node(0, " + what + ")", behind.node(0, what), before.node(0, what));
                Check.due("node(1, " + what + ")", behind.node(1, what), before.node(1, what));
            }
        }
        Reader written = Check.with(UNIT, "$");
        Check.due("outcome of files not yet translated", Check.outcome(written), "0  /  / 0 0 / 0:-1");
        written.translate(1);
        written.translate(2);
        Check.due("outcome of an empty file behind a fault", Check.outcome(written), "0  /  / 0 0 / 0:-1");
    }

    /** "without macros, it is read and its lines are gone through". */
    private static void translatesWithoutMacros() {
        Reader reader = Check.with("#define a\n#define b\nint c;", "int a;", "#define a 1\n#define d\nint x=a;");
        Check.due("file 0", reader.translate(0), 0);
        Check.due("macros of file 0", reader.macros(), 2);
        Check.due("file 1", reader.translate(1), 0);
        Check.due("words of file 1", Check.words(reader), "int a ;");
        Check.due("macros of file 1", reader.macros(), 0);
        Check.due("file 2", reader.translate(2), 0);
        Check.due("macros of file 2", reader.macros(), 2);
        Check.due("file 2 again", reader.translate(2), 0);
    }

    /** "What the following methods answer is that of the latest translation, also after files were changed". */
    private static void latestTranslation() {
        for (int code = 0; code < CODES.length; code++) {
            Reader reader = Check.with(CODES[code], FILES[1], FILES[2]);
            reader.translate(2);
            reader.translate(0);
            String outcome = Check.outcome(reader);
            Check.due("outcome of " + CODES[code], outcome, new Model(CODES[code], FILES[1], FILES[2]).outcome(0));
            reader.clear();
            Check.due("outcome behind clear", Check.outcome(reader), outcome);
            reader.choose(0);
            Check.due("outcome behind choose", Check.outcome(reader), outcome);
            reader.write('y');
            Check.due("outcome behind write", Check.outcome(reader), outcome);
            reader.clear();
            Check.add(reader, "typedef int V;V v;");
            Check.due("outcome behind another text", Check.outcome(reader), outcome);
            Check.due("translate of the other text", reader.translate(0), 0);
            Check.due("outcome of the other text", Check.words(reader), "typedef int V ; V v ;");
        }
    }

    private static void dueLengths(String what, Reader reader, int... lengths) {
        for (int file = 0; file < 3; file++) {
            Check.due("length(" + file + ") behind " + what, reader.length(file), lengths[file]);
        }
    }
}
