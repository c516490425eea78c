/** Promises 6 to 14: what translate leaves behind, and what is asked of it. */
public final class OutcomeTest {
    private static final int[] NO_FILES = {-1, 3, 99, Integer.MIN_VALUE, Integer.MAX_VALUE};

    public static void main(String[] args) {
        noSuchFile();
        latestTranslation();
        faultsLeaveNoTokens();
        nothingIsLeftBehind();
        nothingIsSeenBehindTheEnd();
        nodeNumbers();
        everyCode();
        Check.end();
    }

    private static void noSuchFile() {
        Reader reader = Check.with("#define a 1\nint x=a;");
        for (int file : NO_FILES) {
            Check.due("translate(" + file + ") at first", reader.translate(file), -1);
            Check.due("verdict", reader.verdict(), 0);
            Check.due("nodes", reader.nodes(), 1);
        }
        reader.translate(0);
        String before = Check.outcome(reader);
        Check.due("outcome", before, "0 int x = 1 ; / 2 2 2 2 2 / 1 1 / 0:-1[1:0[3:0 4:1[18:3]]]");
        for (int file : NO_FILES) {
            Check.due("translate(" + file + ")", reader.translate(file), -1);
            Check.due("outcome after translate(" + file + ")", Check.outcome(reader), before);
        }
    }

    private static void latestTranslation() {
        Reader reader = Check.with("#define a 1\nint x=a;", "int y;", "(");
        Check.due("file 0", reader.translate(0), 0);
        String first = Check.outcome(reader);
        reader.choose(0);
        reader.clear();
        reader.write('$');
        Check.due("after the file was changed", Check.outcome(reader), first);
        Check.due("file 1", reader.translate(1), 0);
        Check.due("outcome of file 1", Check.outcome(reader), "0 int y ; / 1001 1001 1001 / 0 0 / 0:-1[1:0[3:0 4:1]]");
        Check.due("file 2", reader.translate(2), PhaseReader.SYNTAX);
        Check.due("verdict of file 2", reader.verdict(), PhaseReader.SYNTAX);
        Check.due("tokens of file 2", Check.words(reader), "(");
        Check.due("file 0 now", reader.translate(0), PhaseReader.CHARACTER);
        Check.due("verdict of file 0 now", reader.verdict(), PhaseReader.CHARACTER);
        Check.put(reader, 0, "#define a 1\nint x=a;");
        Check.due("verdict before it is translated", reader.verdict(), PhaseReader.CHARACTER);
        Check.due("file 0 again", reader.translate(0), 0);
        Check.due("outcome of file 0 again", Check.outcome(reader), first);
        for (int turn = 0; turn < 20; turn++) {
            reader.translate(turn % 3);
        }
        reader.translate(0);
        Check.due("outcome after many", Check.outcome(reader), first);
    }

    private static void faultsLeaveNoTokens() {
        String[] faults = {"/*", "$", "#x", "#endif", "#include <1>", "#define a\n#define a", "#define a(p,q,r,s)",
            "#define f()\nf(", "#define a +##+\na", ";".repeat(101)};
        for (String fault : faults) {
            Reader reader = Check.with("int x;", "#include <1>");
            reader.translate(0);
            Check.put(reader, 0, fault.startsWith("#") ? "int y;\n" + fault : fault);
            int verdict = reader.translate(0);
            Check.due("code of " + fault + " is one of 1 to 9", verdict >= 1 && verdict <= 9, true);
            Check.due("verdict of " + fault, reader.verdict(), verdict);
            Check.due("tokens of " + fault, reader.tokens(), 0);
            Check.due("place of " + fault, reader.place(0), -1);
            Check.due("spelling of " + fault, reader.spelling(0, 0), -1);
            Check.due("nodes of " + fault, reader.nodes(), 0);
            Check.due("node of " + fault, reader.node(0, 0), -2);
        }
    }

    /** What one translation leaves in the rows must not be seen by the next one. */
    private static void nothingIsLeftBehind() {
        after("typedef int T;", "T x;", PhaseReader.SYNTAX);
        after("int x;", "int x", PhaseReader.SYNTAX);
        after("int x", "int", PhaseReader.SYNTAX);
        after("int f(){}", "int f{}", PhaseReader.SYNTAX);
        after("#ifdef A", "int x;", 0);
        after("#ifdef A", "#endif", PhaseReader.CONDITION);
        after("#ifdef A\n#ifdef B", "#ifdef A\n#endif", 0);
        after("#ifndef A\n#else", "#ifndef A\n#else\n#endif", 0);
        after(";;=", "??", PhaseReader.CHARACTER);
        after("x\n", "\\", PhaseReader.CHARACTER);
        after("/**/", "/*", PhaseReader.COMMENT);
        after("#define a", "#define a", 0);
        after("#include <1>\n".repeat(10), "#include <1>\n".repeat(10), 0);
        after("#include <0>", "#include <1>", 0);
        after("#define a\n" + "a ".repeat(30), "#define a\n" + "a ".repeat(30), 0);
        after("int x=(((((((", "int x=((((((1))))));", 0);
        after("int f(){int a;", "int f(){}", 0);
        after("#define f()\n;f(;", "int x;", 0);
        after("#define a +##+\na;", "int x;", 0);
        after("int x;", "int", PhaseReader.SYNTAX);
        after("#define a(p)", "#define a", 0);
        after("#define a b## ##", "#define a b", 0);
        after("#define a b##", "#define a", 0);
        after("#ifdef a b", "#ifdef a", PhaseReader.CONDITION);
        after("#include <1> 2", "#include <1>", 0);
        after("#else x", "#", 0);
        after("#define f(p)\n#define g()\nf(x x g(1))", "#define f(p) p\nint x=f(f(1));", 0);
    }

    /** Nor must the end of a longer list be seen behind a shorter one, wherever that is cut off. */
    private static void nothingIsSeenBehindTheEnd() {
        String[] files = {"typedef int T,*U;int*(*f)()=(T*)&g[1](2,-x),y[3];T h(){T a=b;{;return a+1;}c();}",
            "#define f(p,q) [p##q]\n#define x\n#ifdef x\nf(1,(2,3))f(,);\n#else\ny\n#endif\n#include <2>\n#undef x"};
        for (String file : files) {
            for (int end = 0; end < file.length(); end++) {
                String beginning = file.substring(0, end);
                Reader reader = Check.with(file, beginning);
                reader.translate(0);
                reader.translate(1);
                Check.due("outcome of " + Check.name(beginning), Check.outcome(reader), new Model(file, beginning,
                    "").outcome(1));
                reader.translate(0);
                Check.due("outcome of " + Check.name(file), Check.outcome(reader), new Model(file, beginning,
                    "").outcome(0));
            }
        }
    }

    private static void after(String first, String second, int want) {
        Reader reader = Check.with(first);
        reader.translate(0);
        Check.put(reader, 0, second);
        Check.due("translate of " + second + " after " + first, reader.translate(0), want);
        Reader fresh = Check.with(second);
        fresh.translate(0);
        Check.due("tokens of " + second + " after " + first, Check.words(reader), Check.words(fresh));
    }

    private static void nodeNumbers() {
        Reader reader = Check.with("int x=-1;");
        reader.translate(0);
        int[][] nodes = {{0, -1, 1}, {1, 0, 2}, {3, 0, 0}, {4, 1, 1}, {13, 3, 1}, {18, 4, 0}};
        Check.due("nodes", reader.nodes(), nodes.length);
        for (int k = 0; k < nodes.length; k++) {
            for (int what = 0; what < 3; what++) {
                Check.due("node(" + k + ", " + what + ")", reader.node(k, what), nodes[k][what]);
            }
            Check.due("node(" + k + ", 3)", reader.node(k, 3), -2);
            Check.due("node(" + k + ", -1)", reader.node(k, -1), -2);
            Check.due("node(" + k + ", most)", reader.node(k, Integer.MAX_VALUE), -2);
        }
        int[] none = {-1, 6, 200, 201, Integer.MIN_VALUE, Integer.MAX_VALUE};
        for (int k : none) {
            Check.due("node(" + k + ", 0)", reader.node(k, 0), -2);
            Check.due("place(" + k + ")", reader.place(k), -1);
            Check.due("spelling(" + k + ", 0)", reader.spelling(k, 0), -1);
        }
    }

    private static void everyCode() {
        Check.verdict(PhaseReader.COMMENT, "/*");
        Check.verdict(PhaseReader.CHARACTER, "$");
        Check.verdict(PhaseReader.DIRECTIVE, "#x");
        Check.verdict(PhaseReader.CONDITION, "#else");
        Check.verdict(PhaseReader.NESTING, "#include <0>");
        Check.verdict(PhaseReader.REDEFINED, "#define a\n#define a");
        Check.verdict(PhaseReader.ROOM, "[[[[[[[");
        Check.verdict(PhaseReader.CALL, "#define f()\nf(");
        Check.verdict(PhaseReader.PASTE, "#define a +##+\na");
        Check.verdict(PhaseReader.NUMBER, "1x");
        Check.verdict(PhaseReader.SYNTAX, "x");
        Check.verdict(0, "");
    }
}
