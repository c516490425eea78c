/** The edges of promises 7 to 14: what is asked of a translation, a sentence of the document a method. */
public final class AnswersEdgesTest {
    /** For each code a file 0 that answers it, with macros and replaced tokens before; code 0 first. */
    private static final String[] CODES = {"#define a 1\nint x=a;", "#define a\na\n/*", "#define a\na\n$",
        "#define a\na\n#x", "#define a\na\n#else", "#undef a\n#define a\na\n#include <0>", "#define a\na\n#define a",
        "#define a\na\n#define f(p,q,r,s)", "#define a\n#define f()\na f(", "#define a +##+\na", "#define a 1y\na",
        "#define a x\na"};
    private static final int[] REPLACED = {1, 0, 0, 1, 1, 4, 1, 1, 1, 1, 1, 1};
    private static final int[] MACROS = {1, 0, 0, 1, 1, 1, 1, 1, 2, 1, 1, 1};

    public static void main(String[] args) {
        verdicts();
        tokensOfFaults();
        tokensOfBrackets();
        places();
        spellings();
        spellingsOfTheLongest();
        spellingsOfNoToken();
        replacedUpToTheFault();
        macrosAtTheEnd();
        nodesOfFaults();
        nodes();
        nodesOfNoTree();
        askingChangesNothing();
        Check.end();
    }

    /** "The answer of the latest translation; 0 before the first one." */
    private static void verdicts() {
        Check.due("verdict of a new object", new Reader().verdict(), 0);
        Check.due("verdict before the first translation", Check.with("$").verdict(), 0);
        for (int code = 0; code < CODES.length; code++) {
            Reader reader = Check.with(CODES[code], "int x;", "$");
            Check.due("translate of " + CODES[code], reader.translate(0), code);
            Check.due("verdict of " + CODES[code], reader.verdict(), code);
            Check.due("verdict asked again", reader.verdict(), code);
            reader.translate(3);
            Check.due("verdict behind translate(3)", reader.verdict(), code);
            reader.translate(1);
            Check.due("verdict of file 1", reader.verdict(), 0);
            reader.translate(2);
            Check.due("verdict of file 2", reader.verdict(), PhaseReader.CHARACTER);
            reader.translate(0);
            Check.due("verdict of file 0 again", reader.verdict(), code);
        }
    }

    /** "0 when something went wrong before the parsing (codes 1 to 9 ..)". */
    private static void tokensOfFaults() {
        for (int code = 0; code < CODES.length; code++) {
            Reader reader = Check.with(";;;;;\n" + CODES[code], "int x;");
            reader.translate(1);
            Check.due("tokens before", reader.tokens(), 3);
            reader.translate(0);
            boolean comesOut = code == 0 || code >= PhaseReader.NUMBER;
            Check.due("tokens of code " + code, reader.tokens() > 5, comesOut);
            Check.due("place of code " + code, reader.place(0), comesOut ? 1 : -1);
            Check.due("spelling of code " + code, reader.spelling(0, 0), comesOut ? ';' : -1);
            Check.due("no tokens of code " + code, reader.tokens() == 0, !comesOut);
        }
    }

    /** "but for the ROOM of the brackets". */
    private static void tokensOfBrackets() {
        Reader reader = Check.translated("#define a ((((\n;a\na");
        Check.due("verdict", reader.verdict(), PhaseReader.ROOM);
        Check.due("words", Check.words(reader), "; ( ( ( ( ( ( ( (");
        Check.due("places", Check.places(reader), "2 2 2 2 2 3 3 3 3");
        Check.due("replaced", reader.replaced(), 2);
        Check.due("macros", reader.macros(), 1);
        Check.due("nodes", reader.nodes(), 0);
        Reader room = Check.translated(";".repeat(101));
        Check.due("verdict of 101 tokens", room.verdict(), PhaseReader.ROOM);
        Check.due("tokens of 101 tokens", room.tokens(), 0);
    }

    /** "The place of token k; -1 when there is none." */
    private static void places() {
        Reader reader = Check.translated("\nint\nx\n;\n");
        int[] want = {2, 3, 4};
        for (int k = 0; k < 3; k++) {
            Check.due("place(" + k + ")", reader.place(k), want[k]);
        }
        for (int k : Check.outside(3)) {
            Check.due("place(" + k + ")", reader.place(k), -1);
            Check.due("place(" + k + ") of a new object", new Reader().place(k), -1);
        }
        Check.due("place(0) of a new object", new Reader().place(0), -1);
        Check.due("place(0) of an empty file", Check.translated("").place(0), -1);
        Reader full = Check.translated(";".repeat(100));
        Check.due("place(98) of 100", full.place(98), 1);
        Check.due("place(99) of 100", full.place(99), 1);
        Check.due("place(100) of 100", full.place(100), -1);
    }

    /** "Character i (from 0) of token k; 0 when it has not so many or i is negative". */
    private static void spellings() {
        String[] words = {"a", "==", "abc", "1234", "_____", "abcdef", "7654321", "ABCDEFGH", "abcdefghi", ";", "##"};
        Reader reader = Check.translated(String.join(" ", words));
        for (int k = 0; k < words.length; k++) {
            for (int i = 0; i < words[k].length(); i++) {
                Check.due("spelling(" + k + ", " + i + ")", reader.spelling(k, i), words[k].charAt(i));
            }
            for (int i : Check.outside(words[k].length())) {
                Check.due("spelling(" + k + ", " + i + ")", reader.spelling(k, i), 0);
            }
        }
    }

    /** The same for each character that a token can have, in the first and in the last place of nine. */
    private static void spellingsOfTheLongest() {
        for (char c = '0'; c <= 'z'; c++) {
            boolean isWord = Character.isLetterOrDigit(c) || c == '_';
            String name = "_zZ_9A0a" + c;
            Reader reader = Check.translated(isWord ? name + " " + c + "_zZ_9A0a" : "");
            for (int i = 0; isWord && i < 9; i++) {
                Check.due("spelling of " + name, reader.spelling(0, i), name.charAt(i));
                Check.due("spelling from " + c, reader.spelling(1, i), i == 0 ? c : name.charAt(i - 1));
            }
            Check.due("spelling behind nine", reader.spelling(0, 9), isWord ? 0 : -1);
            Check.due("spelling behind ten", reader.spelling(1, 10), isWord ? 0 : -1);
        }
    }

    /** "-1 when there is no token k". */
    private static void spellingsOfNoToken() {
        Reader reader = Check.translated("a b");
        for (int k : Check.outside(2)) {
            for (int i : new int[] {0, 1, 9, -1, Integer.MIN_VALUE, Integer.MAX_VALUE}) {
                Check.due("spelling(" + k + ", " + i + ")", reader.spelling(k, i), -1);
            }
        }
        Check.due("spelling(1, 0)", reader.spelling(1, 0), 'b');
        Check.due("spelling of a new object", new Reader().spelling(0, 0), -1);
        Check.due("spelling(0, -1) of a new object", new Reader().spelling(0, -1), -1);
        Check.due("spelling(99, 0) of 100", Check.translated(";".repeat(100)).spelling(99, 0), ';');
        Check.due("spelling(100, 0) of 100", Check.translated(";".repeat(100)).spelling(100, 0), -1);
        Check.due("spelling behind a fault", Check.translated("x\n#x").spelling(0, 0), -1);
    }

    /** "How many tokens were replaced, counted up to what went wrong." */
    private static void replacedUpToTheFault() {
        Check.due("replaced of a new object", new Reader().replaced(), 0);
        for (int code = 0; code < CODES.length; code++) {
            Reader reader = Check.with("#define b\nb b b", CODES[code].replace("<0>", "<1>"));
            reader.translate(0);
            Check.due("replaced before", reader.replaced(), 3);
            Check.due("translate of " + CODES[code], reader.translate(1), code);
            Check.due("replaced of " + CODES[code], reader.replaced(), REPLACED[code]);
        }
        Check.counts(PhaseReader.CALL, 0, 2, 2, "#define a\n#define f(p)\na f(f(1,2))");
        Check.counts(PhaseReader.ROOM, 0, 1, 1, "#define f(p) p p\nf(" + "+".repeat(21) + ")f()");
        Check.counts(PhaseReader.ROOM, 0, 30, 1, "#define a\n" + "a ".repeat(31));
        Check.counts(PhaseReader.SYNTAX, 1, 30, 1, "#define a\n" + "a ".repeat(30) + ";");
    }

    /** "How many macros there were at the end, or when something went wrong." */
    private static void macrosAtTheEnd() {
        Check.due("macros of a new object", new Reader().macros(), 0);
        for (int code = 0; code < CODES.length; code++) {
            Reader reader = Check.with(CODES[code], "#define b\n#define c\n#define d");
            reader.translate(1);
            Check.due("macros before", reader.macros(), 3);
            reader.translate(0);
            Check.due("macros of " + CODES[code], reader.macros(), MACROS[code]);
        }
        StringBuilder defines = new StringBuilder();
        for (int count = 0; count <= 8; count++) {
            Check.counts(0, 0, 0, count, defines.toString());
            Check.counts(PhaseReader.DIRECTIVE, 0, 0, count, defines + "#x\n#define y");
            Check.counts(PhaseReader.SYNTAX, 1, 0, count, defines + ";");
            defines.append("#define ").append((char) ('a' + count)).append('\n');
        }
        Check.counts(PhaseReader.CHARACTER, 0, 0, 1, "#define a\n#include <1>\n#define b", "#define c\n$");
    }

    /** "How many nodes the tree has; 0 when something went wrong." */
    private static void nodesOfFaults() {
        Check.due("nodes of a new object", new Reader().nodes(), 1);
        for (int code = 0; code < CODES.length; code++) {
            Reader reader = Check.with(CODES[code], "int x;");
            reader.translate(1);
            Check.due("nodes before", reader.nodes(), 4);
            reader.translate(0);
            Check.due("nodes of code " + code, reader.nodes(), code == 0 ? 5 : 0);
        }
        for (String file : new String[] {"int x", "int f(){;;;", "int x=1+2+;", "int x;int y;z", "(",
            "int x=(((((((1)))))));", "int x=1y;"}) {
            Check.due("nodes of " + file, Check.translated(file).nodes(), 0);
        }
    }

    /** "Of node k: 0 its number .., 1 its token, 2 how many children it has; -2 when there is no such node or number." */
    private static void nodes() {
        Reader reader = Check.translated("int x=-1;");
        int[][] nodes = {{0, -1, 1}, {1, 0, 2}, {3, 0, 0}, {4, 1, 1}, {13, 3, 1}, {18, 4, 0}};
        Check.due("nodes", reader.nodes(), nodes.length);
        for (int k = 0; k < nodes.length; k++) {
            for (int what = 0; what < 3; what++) {
                Check.due("node(" + k + ", " + what + ")", reader.node(k, what), nodes[k][what]);
            }
            for (int what : Check.outside(3)) {
                Check.due("node(" + k + ", " + what + ")", reader.node(k, what), -2);
            }
        }
        for (int k : Check.outside(nodes.length)) {
            for (int what : new int[] {-1, 0, 1, 2, 3}) {
                Check.due("node(" + k + ", " + what + ")", reader.node(k, what), -2);
            }
        }
    }

    /** The same where there is no node at all, or the unit alone. */
    private static void nodesOfNoTree() {
        for (int code = 1; code < CODES.length; code++) {
            Reader reader = Check.with(CODES[code], "int x;");
            reader.translate(1);
            reader.translate(0);
            for (int k = -1; k <= 4; k++) {
                for (int what = -1; what <= 3; what++) {
                    Check.due("node(" + k + ", " + what + ") of code " + code, reader.node(k, what), -2);
                }
            }
        }
        int[] unit = {0, -1, 0};
        for (Reader reader : new Reader[] {new Reader(), Check.translated(""), Check.translated("#define a\na")}) {
            for (int what = -1; what <= 3; what++) {
                Check.due("node(0, " + what + ") of the unit", reader.node(0, what), what < 0 || what > 2 ? -2
                    : unit[what]);
                Check.due("node(1, " + what + ") of the unit", reader.node(1, what), -2);
                Check.due("node(-1, " + what + ") of the unit", reader.node(-1, what), -2);
            }
        }
    }

    /** What is asked, rightly or wrongly, is no change. */
    private static void askingChangesNothing() {
        for (String file : CODES) {
            Reader reader = Check.with(file, "x", "yy");
            reader.translate(0);
            Check.changesNothing("all questions", reader, () -> askAll(reader));
        }
    }

    private static void askAll(Reader reader) {
        for (int k : new int[] {-1, 0, 1, 4, 5, 100, 101, Integer.MAX_VALUE, Integer.MIN_VALUE}) {
            reader.place(k);
            reader.spelling(k, 0);
            reader.spelling(0, k);
            reader.node(k, 0);
            reader.node(0, k);
            reader.length(k);
        }
        reader.verdict();
        reader.tokens();
        reader.replaced();
        reader.macros();
        reader.nodes();
    }
}
