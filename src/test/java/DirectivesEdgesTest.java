/** The edges of DIRECTIVES (promises 6, 8 and 12), a sentence of the document a method. */
public final class DirectivesEdgesTest {
    private static final String EIGHT =
        "#define a\n#define b\n#define c\n#define d\n#define e\n#define f\n#define g\n#define h\n";
    private static final String SEVEN = EIGHT.substring(0, EIGHT.length() - "#define h\n".length());
    private static final String CALL = "#define f(p) <p>\n";

    public static void main(String[] args) {
        readBeforeItsLines();
        firstTokenOfALine();
        groups();
        tokensOut();
        tokensOutOfGroupsAndFiles();
        tokensOutBehindTheExpanding();
        groupBeforeDirective();
        groupBeforeEndOfFile();
        emptyDirective();
        unknownDirectives();
        namesOfDirectives();
        whiteSpaceBeforeParameters();
        parameters();
        bodies();
        includedFiles();
        redefined();
        roomOfParameters();
        roomOfBody();
        roomOfMacros();
        orderOfDefine();
        callMacroWithoutParameters();
        undef();
        skippedParts();
        conditionBehindDirective();
        elseOrEndifWithoutConditional();
        conditionalOfTheSameFile();
        secondElse();
        endOfFileInConditional();
        skippedWhole();
        deepestConditionals();
        otherSkippedLines();
        endOfSkipping();
        openFiles();
        includesDone();
        nextLineBehindInclude();
        Check.end();
    }

    /** "After a file was read, its lines are gone through." */
    private static void readBeforeItsLines() {
        for (String line : new String[] {"#x", "#endif", "#define a\n#define a", "#define f()\nf(", "#include <0>",
            "#define a +##+\na", ";".repeat(101), "#include <1>", "1x", "((((((("}) {
            Check.counts(PhaseReader.CHARACTER, 0, 0, 0, line + "\n$", "/*");
            Check.counts(PhaseReader.COMMENT, 0, 0, 0, line + "\n/*", "$");
        }
        Check.counts(PhaseReader.CHARACTER, 0, 1, 1, "#define a\na\n#include <1>\n#x", "#define b\na\n$");
        Check.counts(PhaseReader.DIRECTIVE, 0, 1, 1, "#define a\na\n#x\n#include <1>", "#define b\na\n$");
    }

    /** "A line whose first token is # is a directive; all others are text." */
    private static void firstTokenOfALine() {
        for (String before : new String[] {"", " ", "/**/", "\n", "//\n", "/*\n*/", "\\\n", "\n \n"}) {
            Check.counts(0, 0, 0, 1, before + "#define x");
            Check.counts(0, 0, 0, 1, before + "??=define x");
            Check.counts(PhaseReader.SYNTAX, 4, 0, 0, before + ";#define x");
            Check.counts(PhaseReader.SYNTAX, 3, 0, 0, before + "##define x");
        }
        Check.counts(PhaseReader.SYNTAX, 1, 0, 0, "##");
        Check.counts(PhaseReader.SYNTAX, 2, 0, 0, "## #");
        Check.counts(PhaseReader.SYNTAX, 2, 0, 0, "define x");
    }

    /** "The text lines .. between two directives that are not skipped (or beginning or end of the file) are one GROUP". */
    private static void groups() {
        Check.comesOut("< 1 >", CALL + "f\n(\n1\n)");
        Check.comesOut("< 1 >", CALL + "f\n\n//\n/*\n*/(1)");
        Check.comesOut("f ( 1 )", CALL + "f\n#\n(1)");
        Check.comesOut("f ( 1 )", CALL + "f\n#undef x\n(1)");
        Check.comesOut("f ( 1 )", CALL + "f\n#ifdef x\n#endif\n(1)");
        Check.comesOut("f ( 1 )", CALL + "#ifdef x\n#else\nf\n#endif\n(1)");
        Check.comesOut("f ( 1 )", CALL + "#ifndef x\nf\n#else\n#endif\n(1)");
        Check.comesOut("f ( 1 )", CALL + "f\n#include <1>\n(1)", "");
        Check.comesOut("f ( 1 )", CALL + "#include <1>\n(1)", "f");
        Check.comesOut("f ( 1 )", CALL + "f\n#include <1>", "(1)");
        Check.verdict(PhaseReader.CALL, CALL + "f(\n#\n)");
        Check.comesOut("< 1 >", CALL + "#ifdef x\n#else\nf\n(1)\n#endif");
    }

    /** "are more than 100 out in all after a group, ROOM". */
    private static void tokensOut() {
        Check.counts(PhaseReader.SYNTAX, 99, 0, 0, ";".repeat(99));
        Check.counts(PhaseReader.SYNTAX, 100, 0, 0, ";".repeat(100));
        Check.counts(PhaseReader.ROOM, 0, 0, 0, ";".repeat(101));
        Check.counts(PhaseReader.ROOM, 0, 0, 0, ";".repeat(160));
        Check.counts(0, 100, 0, 0, "int " + "*".repeat(97) + "x;");
        Check.counts(PhaseReader.ROOM, 0, 0, 0, "int " + "*".repeat(98) + "x;");
    }

    /** The same "in all": over groups and files. */
    private static void tokensOutOfGroupsAndFiles() {
        Check.counts(PhaseReader.SYNTAX, 100, 0, 0, ";".repeat(60) + "\n#\n" + ";".repeat(40));
        Check.counts(PhaseReader.ROOM, 0, 0, 0, ";".repeat(60) + "\n#\n" + ";".repeat(41));
        Check.counts(PhaseReader.SYNTAX, 100, 0, 0, ";".repeat(99) + "\n#include <1>", ";");
        Check.counts(PhaseReader.ROOM, 0, 0, 0, ";".repeat(99) + "\n#include <1>", ";;");
        Check.counts(PhaseReader.ROOM, 0, 0, 0, ";".repeat(99) + "\n#include <1>\n;", ";");
        Check.counts(PhaseReader.SYNTAX, 100, 0, 0, "#include <1>\n".repeat(10), ";".repeat(10));
        Check.counts(PhaseReader.ROOM, 0, 0, 0, "#include <1>\n".repeat(10) + ";", ";".repeat(10));
        Check.counts(PhaseReader.SYNTAX, 100, 0, 1, ";".repeat(100) + "\n#\n#define a\n#");
    }

    /** The same "after a group": what goes in may be more, and comes out as less. */
    private static void tokensOutBehindTheExpanding() {
        String call = "#define e(p)\ne(" + "+".repeat(40) + ")";
        Check.counts(PhaseReader.SYNTAX, 100, 1, 1, call + ";".repeat(100));
        Check.counts(PhaseReader.ROOM, 0, 1, 1, call + ";".repeat(101));
        Check.counts(PhaseReader.SYNTAX, 100, 9, 1, "#define a 1 2 3 4 5 6 7 8 9 1 2\n" + "a ".repeat(9) + ";");
        Check.counts(PhaseReader.ROOM, 0, 9, 1, "#define a 1 2 3 4 5 6 7 8 9 1 2\n" + "a ".repeat(9) + ";;");
        Check.counts(PhaseReader.CALL, 0, 0, 1, "#define f()\n" + ";".repeat(101) + "f(");
        Check.counts(PhaseReader.ROOM, 0, 1, 1, "#define a\n" + ";".repeat(101) + "a");
    }

    /** "(A group is expanded before the directive .. that ends it is looked at.)" */
    private static void groupBeforeDirective() {
        for (String directive : new String[] {"#x", "#else", "#endif", "#include <3>", "#define f(p)", "#define",
            "#define f"}) {
            Check.counts(PhaseReader.CALL, 0, 0, 1, CALL + "f(\n" + directive);
            Check.counts(PhaseReader.ROOM, 0, 0, 0, ";".repeat(101) + "\n" + directive);
        }
        Check.verdict(PhaseReader.CALL, CALL + "f(\n#include <1>", "$");
        Check.verdict(PhaseReader.CALL, CALL + "#ifndef x\nf(\n#else x");
        Check.comesOut("f 1", "f\n#define f 1\nf");
        Check.comesOut("1 f", "#define f 1\nf\n#undef f\nf");
    }

    /** "(.. or the end of the file, that ends it is looked at.)" */
    private static void groupBeforeEndOfFile() {
        Check.verdict(PhaseReader.CALL, CALL + "#ifndef x\nf(");
        Check.verdict(PhaseReader.CONDITION, CALL + "#ifndef x\nf");
        Check.verdict(PhaseReader.ROOM, "#ifndef x\n" + ";".repeat(101));
        Check.verdict(PhaseReader.CONDITION, "#ifndef x\n" + ";".repeat(100));
        Check.verdict(PhaseReader.CALL, "#include <1>\n#x", CALL + "f(");
    }

    /** "Directives, exactly as written here": # alone. */
    private static void emptyDirective() {
        for (String file : new String[] {"#", "#\n", "# ", " #", "#//", "#/**/", "#\\\n", "#\n#\n#", "#/*\n*/"}) {
            Check.counts(0, 0, 0, 0, file);
        }
        for (String file : new String[] {"##\n# #", "#;", "# 1", "#(", "# ##", "#/*\n*/x"}) {
            Check.verdict(PhaseReader.DIRECTIVE, file);
        }
    }

    /** "else DIRECTIVE". */
    private static void unknownDirectives() {
        for (String word : new String[] {"defin", "defines", "DEFINE", "Define", "_define", "undefx", "unde", "ifde",
            "ifdefs", "if", "ifnde", "ifndefs", "els", "elses", "elif", "endi", "endifs", "includ", "includes", "int",
            "a", "pragma"}) {
            Check.verdict(PhaseReader.DIRECTIVE, "#" + word);
            Check.verdict(PhaseReader.DIRECTIVE, "#" + word + " a");
            Check.verdict(PhaseReader.DIRECTIVE, "#" + word + " <1>");
        }
    }

    /** "N and p are NAMEs." */
    private static void namesOfDirectives() {
        for (String word : new String[] {"define", "undef", "ifdef", "ifndef"}) {
            String end = word.startsWith("if") ? "\n#endif" : "";
            for (String name : new String[] {"a", "_", "Z9", "int", "define", "abcdefghi", "return"}) {
                Check.verdict(0, "#" + word + " " + name + end);
            }
            for (String none : new String[] {"", "1", "1a", "0", "9", "(", ")", "#", "##", "+", ",", "<", "=="}) {
                Check.verdict(PhaseReader.DIRECTIVE, "#" + word + " " + none + end);
            }
            if (!word.equals("define")) {
                for (String more : new String[] {"a b", "a 1", "a(", "a#", "a ##", "a;"}) {
                    Check.verdict(PhaseReader.DIRECTIVE, "#" + word + " " + more + end);
                }
            }
            Check.verdict(PhaseReader.DIRECTIVE, "#" + word + "\na" + end);
        }
        for (String parameter : new String[] {"1", "1a", "0", "9", "+", "#", "##", "==", "(", "a b", "a 1"}) {
            Check.verdict(PhaseReader.DIRECTIVE, "#define f(" + parameter + ")");
            Check.verdict(PhaseReader.DIRECTIVE, "#define f(p," + parameter + ")");
        }
    }

    /** "In the third there is no white space between N and ( .. ; if ( does not follow so, it is the second". */
    private static void whiteSpaceBeforeParameters() {
        Check.comesOut("[ 2 ]", "#define f(p) [p]\nf(2)");
        Check.comesOut("[ 2 ]", "#define f\\\n(p) [p]\nf(2)");
        Check.comesOut("[ 2 ]", "#define f( p ) [p]\nf(2)");
        Check.comesOut("[ 2 ]", "#define f(/*\n*/p)[p]\nf(2)");
        for (String space : new String[] {" ", "  ", "/**/", "/*\n*/", " \\\n", "\\\n "}) {
            Check.comesOut("( p ) [ p ] ( 2 )", "#define f" + space + "(p) [p]\nf(2)");
            Check.verdict(0, "#define f" + space + "(");
            Check.verdict(0, "#define f" + space + "(1");
            Check.verdict(0, "#define f" + space + "((p)");
            Check.verdict(0, "#define f" + space + "(p,p)");
        }
        Check.comesOut("( ) ( 2 )", "#define f ()\nf(2)");
        Check.comesOut("- ( 2 )", "#define f-(2)\nf");
        Check.comesOut("( p ) ( 1 )", "#define f\n(p) f(1)");
        Check.verdict(PhaseReader.DIRECTIVE, "#define f(");
    }

    /** "there are no or more p, all different, and ) closes them". */
    private static void parameters() {
        for (String right : new String[] {"()", "( )", "(p)", "(p,q)", "(p , q)", "(p,q,r)", "(p,P,_)", "(f)",
            "(define,f,p)"}) {
            Check.counts(0, 0, 0, 1, "#define f" + right);
            Check.counts(0, 0, 0, 1, "#define f" + right + "1");
        }
        for (String wrong : new String[] {"(", "(p", "(p,", "(p,q", "(p,q,", "(,", "(,)", "(,p)", "(p,)", "(p,,q)",
            "(p q)", "(p;q)", "((p))", "(p,(q))", "(p,p)", "(p,q,p)", "(p,q,q)", "(p,p,q)", "(p,q,r,p)", "(p,q,r,s,s)",
            "(p]", "(p\n)", "(\n)"}) {
            Check.counts(PhaseReader.DIRECTIVE, 0, 0, 0, "#define f" + wrong);
        }
        Check.comesOut("[ 1 2 3 ]", "#define f(p,q,r) [p q r]\nf(1,2,3)");
        Check.comesOut("[ 1 P _ ]", "#define f(p) [p P _]\nf(1)");
    }

    /** "A body is none or more tokens, the first and last of which are not ##, and no two ## side by side." */
    private static void bodies() {
        for (String next : new String[] {"##", "## ##", "a##", "(p)", "##b"}) {
            Check.verdict(PhaseReader.SYNTAX, "#define f\n" + next);
            Check.verdict(PhaseReader.SYNTAX, "#define f b\n" + next);
            Check.verdict(PhaseReader.SYNTAX, "#define f()\n" + next);
        }
        for (String head : new String[] {"#define f ", "#define f() ", "#define f(p) ", "#define f(p,q)"}) {
            for (String right : new String[] {"", "1", "#", "a##b", "p##p", "a##b##c", "a##b c##d", "# ## #", "a ###",
                "a ## ( ## b", "= ##=", "1##2##3##4##5##6"}) {
                Check.counts(0, 0, 0, 1, head + right);
            }
            for (String wrong : new String[] {"##", "## ##", "##a", "a##", "## a ##", "a## ##b", "a b## ##", "a##b##",
                "##a##b", "a## ## ##b", "a##b## ##c", "####", "a####b", "### a", "a # ##"}) {
                Check.counts(PhaseReader.DIRECTIVE, 0, 0, 0, head + wrong);
            }
        }
    }

    /** "d is a NUMBER, spelled 0, 1 or 2." */
    private static void includedFiles() {
        Check.counts(0, 0, 0, 1, "#ifndef a\n#define a\n#include <0>\n#endif");
        Check.comesOut("x y", "#include <1>\n#include <2>", "x", "y");
        Check.comesOut("x", "#include/**/ < /**/ 1 >//\n", "x");
        Check.comesOut("x", "#include <\\\n1>", "x");
        for (String wrong : new String[] {"", "1", "<", "<1", "<>", "1>", "<3>", "<4>", "<9>", "<00>", "<01>", "<02>",
            "<10>", "<1a>", "<a>", "<-1>", "<+1>", "<1>>", "<1> 1", "<<1>", "<1 2>", "<1>;", ">1<", ">1>", "<1<", "(1)",
            "<1)", "[1]", "<#>", "<_>", "<\n1>", "<;>", "</>", "<0", "<2 >>"}) {
            Check.verdict(PhaseReader.DIRECTIVE, "#include " + wrong, "", "");
        }
        Check.verdict(PhaseReader.DIRECTIVE, "#define a 1\n#include <a>", "");
        Check.verdict(PhaseReader.DIRECTIVE, "#define a <1>\n#include a", "");
    }

    /** "REDEFINED if N is a macro already". */
    private static void redefined() {
        Check.counts(PhaseReader.REDEFINED, 0, 0, 1, "#define a 1\n#define a 1");
        Check.counts(PhaseReader.REDEFINED, 0, 0, 1, "#define a\n#define a()");
        Check.counts(PhaseReader.REDEFINED, 0, 0, 1, "#define a()\n#define a");
        Check.counts(PhaseReader.REDEFINED, 0, 0, 2, "#define a\n#define b\n#define a");
        Check.counts(PhaseReader.REDEFINED, 0, 0, 2, "#define a\n#define b\n#define b");
        Check.counts(PhaseReader.REDEFINED, 0, 0, 1, "#define a\n#include <1>", "#define a");
        Check.counts(PhaseReader.REDEFINED, 0, 0, 8, EIGHT + "#define a");
        Check.counts(PhaseReader.REDEFINED, 0, 0, 8, EIGHT + "#define h");
        Check.counts(0, 0, 0, 2, "#define a\n#define A");
        Check.counts(0, 0, 0, 2, "#define abcdefghi\n#define abcdefgh");
        Check.counts(0, 0, 0, 2, "#define abcdefghi\n#define abcdefghj");
        Check.counts(0, 0, 0, 2, "#define abcdefghi\n#define bbcdefghi");
        Check.counts(0, 0, 0, 1, "#define a\n#undef a\n#define a");
        Check.counts(0, 0, 0, 1, "#define a b\n#undef b");
    }

    /** "ROOM if there are more than 3 p". */
    private static void roomOfParameters() {
        Check.counts(0, 0, 0, 1, "#define f()");
        Check.counts(0, 0, 0, 1, "#define f(p,q)");
        Check.counts(0, 0, 0, 1, "#define f(p,q,r)");
        Check.counts(PhaseReader.ROOM, 0, 0, 0, "#define f(p,q,r,s)");
        Check.counts(PhaseReader.ROOM, 0, 0, 0, "#define f(p,q,r,s,t)");
        Check.counts(PhaseReader.ROOM, 0, 0, 1, "#define a\n#define f(p,q,r,s)");
        Check.counts(0, 0, 0, 1, "#define f (p,q,r,s)");
        StringBuilder many = new StringBuilder("a");
        for (char c = 'b'; c <= 'z'; c++) {
            many.append(',').append(c);
        }
        Check.counts(PhaseReader.ROOM, 0, 0, 0, "#define f(" + many + ")");
    }

    /** "the body has more than 12 tokens". */
    private static void roomOfBody() {
        for (String head : new String[] {"#define f ", "#define f() ", "#define f(p,q,r) "}) {
            for (int length = 0; length <= 12; length++) {
                Check.counts(0, 0, 0, 1, head + "1 ".repeat(length));
            }
            Check.counts(PhaseReader.ROOM, 0, 0, 0, head + "1 ".repeat(13));
            Check.counts(PhaseReader.ROOM, 0, 0, 0, head + "1 ".repeat(14));
            Check.counts(PhaseReader.ROOM, 0, 0, 0, head + "1 ".repeat(60));
            Check.counts(0, 0, 0, 1, head + "1 " + "1##".repeat(5) + "1");
            Check.counts(PhaseReader.ROOM, 0, 0, 0, head + "1 1 " + "1##".repeat(5) + "1");
        }
        Check.comesOut("1 2 3 4 5 6 7 8 9 10 11 12", "#define a 1 2 3 4 5 6 7 8 9 10 11 12\na");
    }

    /** "or there are 8 macros". */
    private static void roomOfMacros() {
        Check.counts(0, 0, 0, 7, SEVEN);
        Check.counts(0, 0, 0, 8, EIGHT);
        Check.counts(PhaseReader.ROOM, 0, 0, 8, EIGHT + "#define i");
        Check.counts(PhaseReader.ROOM, 0, 0, 8, EIGHT + "#define i()");
        Check.counts(0, 0, 0, 8, EIGHT + "#undef a\n#define i");
        Check.counts(PhaseReader.ROOM, 0, 0, 8, EIGHT + "#undef i\n#define i");
        Check.counts(PhaseReader.ROOM, 0, 0, 8, EIGHT + "#include <1>", "#define i");
        Check.counts(0, 0, 0, 8, SEVEN + "#include <1>", "#define i");
    }

    /** DIRECTIVE is looked at before REDEFINED, and this before ROOM. */
    private static void orderOfDefine() {
        Check.counts(PhaseReader.DIRECTIVE, 0, 0, 1, "#define f\n#define f ##");
        Check.counts(PhaseReader.DIRECTIVE, 0, 0, 1, "#define f\n#define f(");
        Check.counts(PhaseReader.DIRECTIVE, 0, 0, 0, "#define f(p,q,r,s) ##");
        Check.counts(PhaseReader.DIRECTIVE, 0, 0, 0, "#define f " + "1 ".repeat(12) + "##");
        Check.counts(PhaseReader.DIRECTIVE, 0, 0, 8, EIGHT + "#define 1");
        Check.counts(PhaseReader.DIRECTIVE, 0, 0, 8, EIGHT + "#define i ##");
        Check.counts(PhaseReader.REDEFINED, 0, 0, 1, "#define f\n#define f(p,q,r,s)");
        Check.counts(PhaseReader.REDEFINED, 0, 0, 1, "#define f\n#define f " + "1 ".repeat(13));
    }

    /** "with parameters (a CALL macro; it may have none), or, by the second form, a plain one". */
    private static void callMacroWithoutParameters() {
        Check.comesOut("f ; 1", "#define f() 1\nf;f()");
        Check.comesOut("1 ; 1 ( )", "#define f 1\nf;f()");
        Check.comesOut("( ) 1 ( )", "#define f () 1\nf()");
        Check.comesOut("f", "#define f()\nf");
        Check.comesOut("", "#define f\nf");
    }

    /** "undef: N is a macro no more (it need not be one)." */
    private static void undef() {
        Check.counts(0, 0, 0, 0, "#undef a");
        Check.counts(0, 0, 0, 0, "#define a\n#undef a\n#undef a");
        Check.counts(0, 0, 0, 1, "#define a\n#undef b");
        for (char gone = 'a'; gone <= 'h'; gone++) {
            String uses = "a b c d e f g h";
            Check.comesOut(String.valueOf(gone), EIGHT + "#include <1>\n" + uses, "#undef " + gone);
            Check.counts(PhaseReader.REDEFINED, 0, 0, 7, EIGHT + "#include <1>", "#undef " + gone + "\n#define "
                + (gone == 'a' ? 'b' : 'a'));
        }
    }

    /** "the lines up to its else (or endif) are skipped if N is no macro, or is one; those from its else .. if the others are not". */
    private static void skippedParts() {
        for (String define : new String[] {"", "#define A\n", "#define A()\n", "#define A 1\n#undef A\n"}) {
            boolean isMacro = define.startsWith("#define A\n") || define.startsWith("#define A(");
            Check.comesOut(isMacro ? "x z" : "z", define + "#ifdef A\nx\n#endif\nz");
            Check.comesOut(isMacro ? "z" : "x z", define + "#ifndef A\nx\n#endif\nz");
            Check.comesOut(isMacro ? "x z" : "y z", define + "#ifdef A\nx\n#else\ny\n#endif\nz");
            Check.comesOut(isMacro ? "y z" : "x z", define + "#ifndef A\nx\n#else\ny\n#endif\nz");
        }
        Check.comesOut("x", "#ifndef A\n#define A\nx\n#else\ny\n#endif");
        Check.comesOut("x", "#define A\n#ifdef A\n#undef A\nx\n#else\ny\n#endif");
        Check.comesOut("", "#ifdef A\n#endif");
        Check.comesOut("", "#ifdef A\n#else\n#endif");
    }

    /** "CONDITION (looked at behind DIRECTIVE)". */
    private static void conditionBehindDirective() {
        for (String word : new String[] {"#else", "#endif"}) {
            Check.verdict(PhaseReader.CONDITION, word);
            Check.verdict(PhaseReader.CONDITION, word + "//x");
            for (String more : new String[] {" x", " 1", "#", ";", "(", "/**/x"}) {
                Check.verdict(PhaseReader.DIRECTIVE, word + more);
                Check.verdict(PhaseReader.DIRECTIVE, "#ifdef A\n" + word + more + "\n#endif");
                Check.verdict(PhaseReader.DIRECTIVE, "#ifdef A\n#else\n" + word + more + "\n#endif");
            }
        }
    }

    /** "an else or endif without a conditional that .. is open". */
    private static void elseOrEndifWithoutConditional() {
        for (String word : new String[] {"#else", "#endif"}) {
            Check.verdict(PhaseReader.CONDITION, word);
            Check.verdict(PhaseReader.CONDITION, "#ifdef A\n#endif\n" + word);
            Check.verdict(PhaseReader.CONDITION, "#ifndef A\n#endif\n" + word);
            Check.verdict(PhaseReader.CONDITION, "#ifdef A\n#else\n#endif\n" + word);
            Check.verdict(PhaseReader.CONDITION, "#ifdef A\n#ifdef B\n#endif\n#endif\n" + word);
            Check.verdict(PhaseReader.CONDITION, "#ifndef A\n#ifndef B\n#endif\n#endif\n" + word);
        }
    }

    /** "a conditional that was opened in the same file". */
    private static void conditionalOfTheSameFile() {
        Check.verdict(PhaseReader.CONDITION, "#ifndef A\n#include <1>\n#endif", "#endif");
        Check.verdict(PhaseReader.CONDITION, "#ifndef A\n#include <1>\n#endif", "#else");
        Check.verdict(PhaseReader.CONDITION, "#ifndef A\n#include <1>\n#endif", "#ifdef B\n#endif\n#endif");
        Check.verdict(PhaseReader.CONDITION, "#include <1>\n#endif", "#ifndef A\n");
        Check.verdict(PhaseReader.CONDITION, "#include <1>\n#endif", "#ifndef A\n#endif");
        Check.comesOut("x y", "#ifndef A\n#include <1>\n#else\nz\n#endif\ny", "#ifdef A\n#else\nx\n#endif");
        Check.comesOut("x x", "#ifndef A\n#define A\n#include <0>\n#endif\nx");
        Check.counts(PhaseReader.CONDITION, 0, 0, 1, "#ifndef A\n#define A\n#include <0>\n#endif\n#endif\n#define B");
    }

    /** "a second else". */
    private static void secondElse() {
        for (String first : new String[] {"#ifdef A\n", "#ifndef A\n"}) {
            Check.verdict(0, first + "#else\n#endif");
            Check.verdict(PhaseReader.CONDITION, first + "#else\n#else\n#endif");
            Check.verdict(PhaseReader.CONDITION, first + "#else\n#ifdef B\n#else\n#endif\n#else\n#endif");
            Check.verdict(0, first + "#ifdef B\n#else\n#endif\n#else\n#ifdef B\n#else\n#endif\n#endif");
            Check.verdict(0, first + "#else\n#endif\n" + first + "#else\n#endif");
        }
    }

    /** "or the end of a file where a conditional is open". */
    private static void endOfFileInConditional() {
        for (String file : new String[] {"#ifdef A", "#ifndef A", "#ifdef A\n#else", "#ifndef A\n#else",
            "#ifdef A\n#ifdef B\n#endif", "#ifndef A\n#ifndef B\n#endif", "#ifndef A\n#ifdef B\n#endif\n",
            "#ifdef A\n#ifdef B\n#else\n#endif", "#ifdef A\n#endif\n#ifdef A"}) {
            Check.verdict(PhaseReader.CONDITION, file);
            Check.verdict(0, file + "\n#endif");
            Check.verdict(PhaseReader.CONDITION, "#include <1>\n#endif", file);
            Check.verdict(PhaseReader.CONDITION, file + "\n#include <1>", file + "\n#endif");
        }
    }

    /** "each line that begins with # and ifdef or ifndef opens a conditional, whatever follows; it is skipped whole". */
    private static void skippedWhole() {
        for (String opening : new String[] {"#ifdef B", "#ifndef B", "#ifdef", "#ifndef", "#ifdef 1", "#ifndef (",
            "#ifdef B C", "# /**/ ifdef ##", "#ifdef A", "#ifndef A"}) {
            String head = "#ifdef A\n" + opening + "\n";
            Check.comesOut("z", head + "x\n#endif\ny\n#endif\nz");
            Check.comesOut("z", head + "#else\nx\n#endif\ny\n#endif\nz");
            Check.comesOut("z", head + "#else\n#else\n#else 1\n#endif 2\n#endif\nz");
            Check.comesOut("y z", head + "#endif\n#else\ny\n#endif\nz");
            Check.comesOut("y", "#ifndef A\ny\n#else\n" + opening + "\n#else\nx\n#endif\nx\n#endif");
            Check.verdict(PhaseReader.CONDITION, head + "#endif");
        }
        for (String text : new String[] {"ifdef B", "x #ifdef B", "##ifdef B", "#\nifdef B", "#ifdefs B", "#if B",
            "#1 ifdef", "# # ifdef", "/*#ifdef*/", "//#ifdef B", "#define ifdef", "#undef ifdef", "#IFDEF B"}) {
            Check.comesOut("z", "#ifdef A\n" + text + "\n#endif\nz");
        }
    }

    /** Conditionals as deep as a file can hold them, skipped whole and not. */
    private static void deepestConditionals() {
        Check.verdict(0, "#ifdef A\n".repeat(10) + "#endif\n".repeat(10));
        Check.verdict(PhaseReader.CONDITION, "#ifdef A\n".repeat(10) + "#endif\n".repeat(9));
        Check.verdict(PhaseReader.CONDITION, "#ifdef A\n".repeat(9) + "#endif\n".repeat(10));
        Check.verdict(PhaseReader.CONDITION, "#ifdef A\n".repeat(17));
        Check.comesOut("x", "#ifndef A\n".repeat(9) + "x\n" + "#endif\n".repeat(8) + "#endif");
        Check.verdict(PhaseReader.CONDITION, "#ifndef A\n".repeat(9) + "x\n" + "#endif\n".repeat(8));
        Check.verdict(PhaseReader.CONDITION, "#ifndef A\n".repeat(8) + "x\n" + "#endif\n".repeat(9));
        Check.verdict(PhaseReader.CONDITION, "#ifndef A\n".repeat(16));
        Check.verdict(PhaseReader.CONDITION, "#define A\n" + "#ifdef A\n".repeat(16));
        for (int code : new int[] {PhaseReader.DIRECTIVE, PhaseReader.CONDITION}) {
            String last = code == PhaseReader.DIRECTIVE ? "#x" : "#endif";
            Check.verdict(code, "#define A\n#include <1>", "#ifdef A\n".repeat(17) + last);
            Check.verdict(code, "#ifndef A\n".repeat(15) + last);
        }
        Check.comesOut("x", "#ifndef A\n#else\n".repeat(3) + "#ifdef A\n".repeat(3) + "#endif\n".repeat(6) + "x");
    }

    /** "Other skipped lines do nothing". */
    private static void otherSkippedLines() {
        for (String line : new String[] {"#", "#x", "#define", "#define B", "#define A", "#define B(", "#define B ##",
            "#undef", "#undef Z", "#include", "#include <0>", "#include <1>", "#include <3>", "f(", ";;;;",
            "#define f()\nf(", "##", "# 1", "1x", "(((((((", "+##+"}) {
            Check.counts(0, 0, 0, 1, "#define Z\n#ifdef A\n" + line + "\n#endif", "$");
            Check.counts(0, 0, 0, 1, "#define Z\n#ifndef Z\n" + line + "\n#else\n#endif", "$");
            Check.counts(0, 0, 0, 1, "#define Z\n#ifdef Z\n#else\n" + line + "\n#endif", "$");
            Check.counts(0, 0, 0, 1, "#define Z\n#ifdef A\n#ifdef Z\n" + line + "\n#else\n" + line + "\n#endif\n#endif",
                "$");
        }
        Check.verdict(PhaseReader.CHARACTER, "#ifdef A\n$\n#endif");
        Check.verdict(PhaseReader.COMMENT, "#ifdef A\n/*\n#endif");
        Check.counts(PhaseReader.SYNTAX, 1, 0, 0, "#ifdef A\n" + ";".repeat(120) + "\n#endif\n;");
    }

    /** "an else or endif of a conditional that is not skipped whole is looked at like a directive that is not skipped". */
    private static void endOfSkipping() {
        Check.verdict(PhaseReader.DIRECTIVE, "#ifdef A\n#else 1\n#endif");
        Check.verdict(PhaseReader.DIRECTIVE, "#ifdef A\n#endif 1");
        Check.verdict(PhaseReader.DIRECTIVE, "#ifndef A\n#else\n#endif 1");
        Check.verdict(PhaseReader.CONDITION, "#ifndef A\n#else\n#else\n#endif");
        Check.verdict(PhaseReader.DIRECTIVE, "#ifndef A\n#else\n#else 1\n#endif");
        Check.verdict(PhaseReader.CONDITION, "#ifdef A\nelse\nendif");
        Check.verdict(PhaseReader.CONDITION, "#ifdef A\n#\nendif");
        Check.verdict(PhaseReader.CONDITION, "#ifdef A\n;#endif");
        Check.verdict(PhaseReader.CONDITION, "#ifdef A\n##endif");
        Check.verdict(PhaseReader.CONDITION, "#ifdef A\n# #endif");
        Check.verdict(0, "#ifdef A\n # /**/ endif // x");
        Check.comesOut("f ( 1 )", CALL + "#ifndef A\nf\n#endif\n(1)");
        Check.comesOut("f ( 1 )", CALL + "#ifdef A\n#else\nf\n#endif\n(1)");
    }

    /** "NESTING if four files are open (the one that translate names, and those included from it one in another)". */
    private static void openFiles() {
        Check.comesOut("x", "#include <1>", "x");
        Check.comesOut("x", "#include <1>", "#include <2>", "x");
        String guarded = "#ifndef A\n#define A\n#include <2>\n#endif\nx";
        Check.comesOut("x y x", "#include <1>", guarded, "#include <1>\ny");
        for (int file = 0; file < 3; file++) {
            String more = "#ifdef A\n#include <" + file + ">\n#else\n#define A\n#include <2>\n#endif\nx";
            Check.counts(PhaseReader.NESTING, 0, 0, 1, "#include <1>", more, "#include <1>\ny");
            Check.counts(PhaseReader.NESTING, 0, 0, 0, "#include <" + file + ">", "#include <" + file + ">",
                "#include <" + file + ">");
        }
        String bad = "#ifdef A\n#include <3>\n#else\n#define A\n#include <2>\n#endif\nx";
        Check.verdict(PhaseReader.DIRECTIVE, "#include <1>", bad, "#include <1>\ny");
        Check.comesOut("x x x", "#include <1>\n".repeat(3), "#include <2>", "x");
        Reader reader = Check.with("x", "#include <0>", "#include <1>");
        Check.due("translate(2), with three open", reader.translate(2), PhaseReader.SYNTAX);
        Check.put(reader, 0, "#include <0>");
        Check.due("translate(2), with more than four open", reader.translate(2), PhaseReader.NESTING);
    }

    /** "or ten includes were done before". */
    private static void includesDone() {
        String line = "#include <1>\n";
        Check.counts(PhaseReader.SYNTAX, 9, 0, 0, line.repeat(9), "x");
        Check.counts(PhaseReader.SYNTAX, 10, 0, 0, line.repeat(10), "x");
        Check.counts(PhaseReader.NESTING, 0, 0, 0, line.repeat(11), "x");
        Check.counts(PhaseReader.NESTING, 0, 0, 0, line.repeat(12), "x");
        Check.counts(PhaseReader.SYNTAX, 5, 0, 0, line.repeat(5), "#include <2>", "x");
        Check.counts(PhaseReader.NESTING, 0, 0, 0, line.repeat(6), "#include <2>", "x");
        Check.counts(PhaseReader.SYNTAX, 8, 0, 0, line.repeat(2), "#include <2>\n".repeat(4), "x");
        Check.counts(PhaseReader.NESTING, 0, 0, 0, line.repeat(2), "#include <2>\n".repeat(5), "x");
        Check.counts(PhaseReader.SYNTAX, 10, 0, 0, "#ifdef A\n" + line + "#endif\n" + line.repeat(10), "x");
        Check.counts(PhaseReader.SYNTAX, 10, 0, 0, "#include <2>\n".repeat(8) + line, "#include <2>\nx", "x");
        Check.counts(PhaseReader.NESTING, 0, 0, 0, "#include <2>\n".repeat(9) + line, "#include <2>\nx", "x");
        Check.verdict(PhaseReader.DIRECTIVE, line.repeat(10) + "#include <3>", "x");
        Check.verdict(PhaseReader.CHARACTER, line.repeat(10), "$");
        Reader reader = Check.with(line.repeat(11), "x", "#include <1>");
        Check.due("eleven", reader.translate(0), PhaseReader.NESTING);
        Check.due("one in the next translation", reader.translate(2), PhaseReader.SYNTAX);
        Check.due("tokens of the next translation", reader.tokens(), 1);
    }

    /** "else that file is read and its lines are gone through, before the next line." */
    private static void nextLineBehindInclude() {
        Check.comesOut("a 1 2 3 b", "a\n#include <1>\nb", "1\n#include <2>\n3", "2");
        Check.comesOut("x 1", "x\n#include <1>\nx", "#define x 1");
        Check.comesOut("1 x", "#define x 1\nx\n#include <1>\nx", "#undef x");
        Check.verdict(PhaseReader.CHARACTER, "#include <1>\n#x", "$");
        Check.verdict(PhaseReader.DIRECTIVE, "#x\n#include <1>", "$");
        Check.counts(0, 0, 0, 0, "#include <1>", "");
        Check.counts(0, 0, 0, 2, "#include <1>\n#define b", "#define a");
    }
}
