/** Promises 6 and 12 as far as DIRECTIVES go. */
public final class DirectivesTest {
    public static void main(String[] args) {
        forms();
        defines();
        undefines();
        conditionals();
        skippedLines();
        includes();
        groups();
        macroCounts();
        Check.end();
    }

    private static void forms() {
        String[] right = {"#", " # ", "#define a", "#define a b", "#define a()", "#define a(p) p",
            "#define a(p , q,r) p", "# define a (p", "#define a/**/(", "#define a (1) ##b", "#undef a",
            "#ifdef a\n#endif", "#ifndef a\n#else\n#endif", "#include <1>", "#include < 2 >",
            "#/**/define/**/int/**/char", "#define define define", "#define a b##c##d", "#define a # b", "#define a+1",
            "#define a(p)p", "#define a(a) a"};
        for (String file : right) {
            Check.verdict(0, file);
        }
        String[] wrong = {"# a", "# 1", "##\n#x", "#if", "#define", "#define 1", "#define (", "#define a(",
            "#define a(p", "#define a(p,", "#define a(p,)", "#define a(,p)", "#define a(p q)", "#define a(1)",
            "#define a(p,p)", "#define a(p,q,p) x", "#define a((p)", "#define a ##", "#define a ##b", "#define a b##",
            "#define a b ## ## c", "#define a(p)##p", "#define a() ##", "#undef", "#undef 1", "#undef a b", "#undef +",
            "#ifdef", "#ifdef 1", "#ifdef a b", "#ifndef", "#ifndef (", "#include", "#include 1", "#include <1",
            "#include <3>", "#include <a>", "#include <00>", "#include <1> 2", "#include <>", "#include (1)", "#else 1",
            "#endif a", "#ifdef a\n#endif a", "#define a(p,q,r,s,p)", "# # define a", "#foo a", "#if a", "#include <1<",
            "#include >1>", "#define\nx y", "#define a(\n)", "#define a(p\n)", "#define a(p,\nq)", "#define a(p,q,q)",
            "#define 0", "#define 9", "#define a(9)", "#undef\na", "#include\n<1>"};
        for (String file : wrong) {
            Check.verdict(PhaseReader.DIRECTIVE, file);
        }
        Check.verdict(PhaseReader.SYNTAX, "##");
        Check.verdict(PhaseReader.SYNTAX, "; #define");
    }

    private static void defines() {
        Check.comesOut("( 1 )", "#define a (1)\na");
        Check.comesOut("a", "#define a(p) 1\na");
        Check.comesOut("1", "#define a(p) 1\na(2)");
        Check.comesOut("( p ) 1 ( 2 )", "#define a (p) 1\na(2)");
        Check.comesOut("( p ) 1 ( 2 )", "#define a/**/(p) 1\na(2)");
        Check.comesOut("1", "#define a\\\n(p) 1\na(2)");
        Check.verdict(PhaseReader.REDEFINED, "#define a\n#define a");
        Check.verdict(PhaseReader.REDEFINED, "#define a\n#define a(p,q,r,s)");
        Check.verdict(PhaseReader.REDEFINED, "#define a 1\n#define a 1 2 3 4 5 6 7 8 9 0 1 2 3");
        Check.verdict(PhaseReader.DIRECTIVE, "#define a\n#define a ##");
        Check.verdict(0, "#define a(p,q,r)");
        Check.verdict(PhaseReader.ROOM, "#define a(p,q,r,s)");
        Check.verdict(0, "#define a 1 2 3 4 5 6 7 8 9 0 1 2");
        Check.verdict(PhaseReader.ROOM, "#define a 1 2 3 4 5 6 7 8 9 0 1 2 3");
        Check.verdict(0, "#define a 1##2##3##4##5##6 7");
        Check.verdict(PhaseReader.ROOM, "#define a 1##2##3##4##5##6##7");
        String eight = "#define a\n#define b\n#define c\n#define d\n#define e\n#define f\n#define g\n#define h\n";
        Check.verdict(0, eight);
        Check.verdict(PhaseReader.ROOM, eight + "#define i");
        Check.verdict(PhaseReader.REDEFINED, eight + "#define h");
        Check.verdict(0, eight + "#undef c\n#define i");
    }

    private static void undefines() {
        Check.comesOut("1 a", "#define a 1\na\n#undef a\na");
        Check.comesOut("1 2", "#define a 1\na\n#undef a\n#define a 2\na");
        Check.comesOut("a", "#undef a\na");
        Check.comesOut("a 2 3", "#define a 1\n#define b 2\n#define c 3\n#undef a\na b c");
        Check.comesOut("2 3", "#define a 1\n#define b 2\n#undef a\n#define c 3\nb c");
        Check.comesOut("1 b 3", "#define a 1\n#define b 2\n#define c 3\n#undef b\na b c");
    }

    private static void conditionals() {
        Check.comesOut("", "#ifdef A\nx\n#endif");
        Check.comesOut("x", "#ifndef A\nx\n#endif");
        Check.comesOut("x", "#define A\n#ifdef A\nx\n#endif");
        Check.comesOut("", "#define A\n#ifndef A\nx\n#endif");
        Check.comesOut("y z", "#ifdef A\nx\n#else\ny\n#endif\nz");
        Check.comesOut("x z", "#ifndef A\nx\n#else\ny\n#endif\nz");
        Check.comesOut("1 2 3", "#ifndef A\n1\n#ifndef B\n2\n#else\n9\n#endif\n3\n#else\n8\n#endif");
        Check.comesOut("2", "#ifndef A\n#define A\n#ifdef A\n2\n#endif\n#endif");
        Check.comesOut("1 2", "#ifdef A\n#else\n1\n#endif\n#ifdef A\n#else\n2\n#endif");
        String[] faults = {"#else", "#endif", "#ifdef A", "#ifndef A", "#ifdef A\n#else",
            "#ifdef A\n#else\n#else\n#endif", "#ifndef A\n#else\n#else\n#endif", "#ifdef A\n#endif\n#endif",
            "#ifdef A\n#endif\n#else", "#ifdef A\n#ifdef B\n#endif", "#ifdef A\n#ifdef\n",
            "#ifndef A\n#ifndef B\n#endif"};
        for (String file : faults) {
            Check.verdict(PhaseReader.CONDITION, file);
        }
        Check.verdict(PhaseReader.DIRECTIVE, "#else x");
        Check.verdict(PhaseReader.DIRECTIVE, "#endif x");
        Check.verdict(PhaseReader.CONDITION, "#ifndef A\n#include <1>\n#endif", "#endif");
        Check.verdict(PhaseReader.CONDITION, "#ifndef A\n#include <1>\n#endif", "#else");
        Check.verdict(PhaseReader.CONDITION, "#include <1>\n#endif", "#ifdef A");
        Check.verdict(0, "#ifndef A\n#include <1>\n#else\n#endif", "#ifdef A\n#else\n#endif");
    }

    private static void skippedLines() {
        Check.verdict(0, "#ifdef A\n#if\n#define\n#define 1\n#include <7>\n#undef\n# 5\n##\n#\n#endif");
        Check.verdict(0, "#ifdef A\n#ifdef\n#else\n#else\n#else 1\n#endif 2\n#endif");
        Check.verdict(0, "#ifdef A\n#ifndef 1 2\n#ifdef B\n#endif\n#else\n#endif\n#else\n#endif");
        Check.comesOut("x", "#ifdef A\n#ifdef B\n#else\ny\n#endif\n#else\nx\n#endif");
        Check.comesOut("x", "#ifndef A\nx\n#else\n#ifdef B\n#else\ny\n#endif\nz\n#endif");
        Check.comesOut("x", "#ifdef A\n#define a(\n#define x 1\n#undef\n#endif\nx");
        Check.verdict(PhaseReader.DIRECTIVE, "#ifdef A\n#else 1\n#endif");
        Check.verdict(PhaseReader.DIRECTIVE, "#ifdef A\n#endif 1");
        Check.verdict(PhaseReader.CONDITION, "#ifdef A\n#else\n#ifdef B\n#endif\n#else\n#endif");
        Check.verdict(PhaseReader.CONDITION, "#ifdef A\nendif\n");
        Check.verdict(PhaseReader.CONDITION, "#ifdef A\n; #endif\n");
        Check.verdict(PhaseReader.CONDITION, "#ifdef A\n## endif\n");
        Check.verdict(0, "#ifdef A\nf(\n#endif");
        Check.comesOut("y", "#ifdef A\nx endif\nx else\nx ifdef\n#endif\ny");
        Check.comesOut("y", "#ifdef A\n#\nifdef B\n#endif\ny");
        Check.comesOut("y", "#ifdef A\nx\n#\nendif\nx\n#endif\ny");
    }

    private static void includes() {
        Check.comesOut("a x b", "a\n#include <1>\nb", "x");
        Check.comesOut("a b", "a\n#include <1>\nb", "");
        Check.comesOut("1", "#include <1>\nx", "#define x 1");
        Check.comesOut("x y z w", "x\n#include <1>\nw", "y\n#include <2>\n", "z");
        Check.comesOut("a a a", "#ifndef A\n#define A\n#include <0>\n#include <0>\n#endif\na");
        Check.verdict(PhaseReader.NESTING, "#include <0>");
        Check.verdict(PhaseReader.NESTING, "#include <1>", "#include <2>", "#include <0>");
        String twice = "#ifdef A\n#ifdef B\nd\n#else\n#define B\n#include <2>\n#endif\n"
            + "#else\n#define A\n#include <2>\n#endif";
        Check.comesOut("d", "#include <2>", "", twice);
        Check.verdict(PhaseReader.NESTING, "#include <1>", "#include <2>", twice);
        String ten = "#include <1>\n".repeat(10);
        Check.comesOut("x x x x x x x x x x", ten, "x");
        Check.verdict(PhaseReader.NESTING, ten + "#include <1>", "x");
        Check.verdict(PhaseReader.NESTING, "#include <1>\n".repeat(6), "#include <2>", "x");
        Check.comesOut("x x x x x", "#include <1>\n".repeat(5), "#include <2>", "x");
        Check.verdict(PhaseReader.DIRECTIVE, ten + "#include <3>");
        Reader reader = Check.with(ten, "x");
        reader.translate(0);
        reader.translate(0);
        Check.due("ten includes again", reader.tokens(), 10);
    }

    private static void groups() {
        String head = "#define f(p) <p>\n";
        Check.comesOut("< 1 > ;", head + "f\n(1\n)\n;");
        Check.comesOut("f ( 1 )", head + "f\n#\n(1)");
        Check.comesOut("f ( 1 )", head + "f\n#include <1>\n", "(1)");
        Check.comesOut("f ( 1 )", head + "#include <1>\n(1)", "f");
        Check.verdict(PhaseReader.CALL, head + "f(1\n#\n)");
        Check.verdict(PhaseReader.CALL, head + "f(1\n#ifdef A\n#endif\n)");
        Check.verdict(PhaseReader.CALL, head + "f(1\n#foo\n)");
        Check.verdict(PhaseReader.CALL, head + "f(1\n#endif\n)");
        Check.verdict(PhaseReader.CALL, head + "#ifndef A\nf(1");
        Check.verdict(PhaseReader.CALL, head + "#ifndef A\nf(1\n#else\n)\n#endif");
        Check.comesOut("< 1 >", head + "#ifdef A\n;\n#ifdef B\n#endif\n;\n#else\nf(\n1)\n#endif");
        String hundred = ";".repeat(100);
        Check.verdict(PhaseReader.SYNTAX, hundred);
        Check.verdict(PhaseReader.ROOM, hundred + ";");
        Check.verdict(PhaseReader.ROOM, hundred + "\n#\n;\n");
        Check.verdict(PhaseReader.ROOM, hundred + ";\n#foo");
        Check.verdict(PhaseReader.DIRECTIVE, hundred + "\n#foo\n;");
        Check.verdict(PhaseReader.CALL, head + hundred + ";f(");
        Check.verdict(PhaseReader.ROOM, ";".repeat(60) + "\n#include <1>", ";".repeat(41));
        Check.verdict(PhaseReader.SYNTAX, ";".repeat(60) + "\n#include <1>", ";".repeat(40));
    }

    private static void macroCounts() {
        macros(2, "#define a\n#define b\n#undef c\n");
        macros(1, "#define a\n#define b\n#undef a\n");
        macros(2, "#define a\n#define b\n#define a\n");
        macros(1, "#define a\n#foo\n#define b");
        macros(0, "#define a\n$");
        macros(1, "#define a\nint x=1y;\n#");
        macros(3, "#define a\n#include <1>\n#define c", "#define b");
        Reader reader = Check.with("#define a", "a");
        reader.translate(0);
        Check.due("macros", reader.macros(), 1);
        reader.translate(1);
        Check.due("macros of the next translation", reader.macros(), 0);
        Check.due("tokens of the next translation", Check.words(reader), "a");
    }

    private static void macros(int want, String... files) {
        Reader reader = Check.with(files);
        reader.translate(0);
        Check.due("macros of " + String.join(" | ", files), reader.macros(), want);
    }
}
