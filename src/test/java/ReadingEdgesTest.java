/** The edges of READING a file (promises 6, 8, 9 and 10), a sentence of the document a method. */
public final class ReadingEdgesTest {
    private static final int FULL = 160;
    private static final String NINE = "=/'()!<>-";
    private static final String PUNCTUATORS = "()[]{};,=+-*/&<>#";

    public static void main(String[] args) {
        eachTrigraph();
        noOtherTrigraph();
        trigraphsFromTheLeft();
        trigraphsAtTheEnd();
        joinedLines();
        notLookedAtAgain();
        newlinePutBehind();
        longComments();
        longCommentsAsOneSpace();
        lineComments();
        newlinesInComments();
        firstCharacters();
        furtherCharacters();
        longestTokens();
        tooLongTokens();
        commentsWithoutEnd();
        firstOfTheTwo();
        placesByLine();
        placesAsWritten();
        placesByFile();
        Check.end();
    }

    /** "each TRIGRAPH is replaced by one character". */
    private static void eachTrigraph() {
        Check.comesOut("a # b", "a ??= b");
        Check.comesOut("a [ b", "a ??( b");
        Check.comesOut("a ] b", "a ??) b");
        Check.comesOut("a { b", "a ??< b");
        Check.comesOut("a } b", "a ??> b");
        Check.comesOut("ab", "a??/\nb");
        for (String none : new String[] {"??'", "??!", "??-", "??/", "??/ \n"}) {
            Check.verdict(PhaseReader.CHARACTER, none);
            Check.verdict(0, "//" + none);
        }
        Check.verdict(0, "int f??(1??);int g()??<??>");
        Check.verdict(0, "??=");
        Check.verdict(0, "??=define a");
        Check.verdict(PhaseReader.DIRECTIVE, "??=x");
        Check.comesOut("a ## b", "a ??=??= b");
    }

    /** No other third character makes one, nor does a single ? before one of the nine. */
    private static void noOtherTrigraph() {
        for (char c = ' '; c <= '~'; c++) {
            if (NINE.indexOf(c) < 0) {
                Check.verdict(PhaseReader.CHARACTER, "??" + c);
                Check.comesOut("b", "/*??" + c + "*/b");
            }
            Check.verdict(PhaseReader.CHARACTER, "?" + c);
            Check.verdict(PhaseReader.CHARACTER, "? ?" + c);
        }
        Check.comesOut("b", "//??\nb");
        Check.comesOut("b", "/*??*/b");
        Check.comesOut("b", "//?/\nb");
        Check.comesOut("", "//??/\nb");
    }

    /** "From the left": a ? before a trigraph stays, and no letter belongs to two of them. */
    private static void trigraphsFromTheLeft() {
        Check.comesOut("", "//???/\nb");
        Check.comesOut("", "//????/\nb");
        Check.comesOut("", "//?????/\nb");
        Check.comesOut("b", "//??//\nb");
        Check.comesOut("", "//??/??/\nb");
        Check.comesOut("b", "//??/?/\nb");
        Check.verdict(PhaseReader.CHARACTER, "???=");
        Check.verdict(PhaseReader.CHARACTER, "????=");
        Check.comesOut("[ ]", "??(??)");
    }

    /** A trigraph is cut off by the end of the file, at any length up to the fullest. */
    private static void trigraphsAtTheEnd() {
        Check.verdict(PhaseReader.CHARACTER, "?");
        Check.verdict(PhaseReader.CHARACTER, "??");
        Check.comesOut("[", "??(");
        Check.comesOut("[", " ".repeat(FULL - 3) + "??(");
        Check.verdict(PhaseReader.CHARACTER, " ".repeat(FULL - 2) + "??");
        Check.verdict(PhaseReader.CHARACTER, " ".repeat(FULL - 1) + "?");
        Check.comesOut("] ".repeat(53).trim(), "??)".repeat(53) + " ");
        Check.verdict(PhaseReader.CHARACTER, "??)".repeat(53) + "?");
    }

    /** "each \ directly before a newline goes out with that newline". */
    private static void joinedLines() {
        Check.comesOut("", "\\\n");
        Check.comesOut("", "\\\n\\\n");
        Check.comesOut("a", "\\\na");
        Check.comesOut("a", "a\\\n");
        Check.comesOut("ab", "a\\\n\\\n\\\nb");
        Check.comesOut("a b", "a\\\n b");
        Check.comesOut("a b", "a \\\nb");
        Check.comesOut("==", "=\\\n=");
        Check.comesOut("x ##", "x #\\\n#");
        Check.comesOut("12", "1\\\n2");
        Check.comesOut("2", "#define a 1 \\\n+\n2");
        Check.comesOut("2", "#\\\ndefine a 2\na");
        Check.comesOut("a # define b", "a\\\n#define b");
        Check.verdict(PhaseReader.CHARACTER, "\\");
        Check.verdict(PhaseReader.CHARACTER, "\\ \n");
        Check.verdict(PhaseReader.CHARACTER, "a\\b\n");
        Check.verdict(PhaseReader.CHARACTER, "\n\\");
        Check.comesOut("a", "a" + " ".repeat(FULL - 3) + "\\\n");
        Check.verdict(PhaseReader.CHARACTER, "a" + " ".repeat(FULL - 2) + "\\");
        Check.comesOut("ab", "a" + "\\\n".repeat(79) + "b");
    }

    /** "what comes together by this, or by (1), is not looked at again in the same step". */
    private static void notLookedAtAgain() {
        Check.comesOut("a", "//\\\\\n\na");
        Check.comesOut("", "//\\\\\na");
        Check.comesOut("a", "//??/\\\n\na");
        Check.comesOut("a", "//\\??/\n\na");
        Check.comesOut("a", "//??/??/\n\na");
        Check.verdict(PhaseReader.CHARACTER, "a\\\\\n\nb");
        Check.comesOut("a", "//?\\\n?/\na");
        Check.comesOut("a", "//??\\\n/\na");
        Check.verdict(PhaseReader.CHARACTER, "a ?\\\n?( b");
        Check.verdict(PhaseReader.CHARACTER, "a ??\\\n( b");
        Check.comesOut("b", "/??/\n* a *??/\n/b");
    }

    /** "If the text is then not empty and does not end in a newline, one is put behind it." */
    private static void newlinePutBehind() {
        Check.comesOut("", "//");
        Check.comesOut("", "// x\\\n");
        Check.comesOut("a", "a");
        Check.comesOut("a", "a\n");
        Check.comesOut("", "\n");
        Check.counts(0, 0, 0, 1, "#define a");
        Check.counts(0, 0, 0, 1, "#define a\\\n");
        Check.counts(0, 0, 0, 1, " ".repeat(FULL - 9) + "#define a");
        Check.comesOut("", " ".repeat(FULL - 2) + "//");
        Check.comesOut("a", " ".repeat(FULL - 1) + "a");
        Check.comesOut("abcdefghi", " ".repeat(FULL - 9) + "abcdefghi");
        Check.comesOut("==", " ".repeat(FULL - 2) + "==");
        Check.comesOut("x /", "x" + " ".repeat(FULL - 2) + "/");
        Check.comesOut("x *", "x" + " ".repeat(FULL - 2) + "*");
        Check.comesOut("", "\n".repeat(FULL));
        Check.counts(0, 0, 0, 0, "\\\n".repeat(FULL / 2));
        Check.comesOut("x y", "#include <1>\ny", "x");
    }

    /** "from a / directly followed by a * up to the next * (behind these two) directly followed by a /". */
    private static void longComments() {
        Check.comesOut("a", "/**/a");
        Check.comesOut("a", "/***/a");
        Check.comesOut("a", "/****/a");
        Check.comesOut("a", "/*/*/a");
        Check.comesOut("a", "/*//*/a");
        Check.comesOut("a", "/* * / /* */a");
        Check.comesOut("* / a", "/**/*/a");
        Check.comesOut("/ a", "/**//a");
        Check.comesOut("/ * a", "/ *a");
        Check.comesOut("a * / b", "a */ b");
        Check.comesOut("", "/*" + "x".repeat(FULL - 4) + "*/");
        Check.comesOut("a", "a" + "/**/".repeat(39));
        Check.comesOut("a", "/*$ abcdefghij \\ ?*/a");
    }

    /** "comments, which count as one space". */
    private static void longCommentsAsOneSpace() {
        Check.comesOut("a b", "a/**/b");
        Check.comesOut("1 2", "1/**/2");
        Check.comesOut("= =", "=/**/=");
        Check.comesOut("a # #", "a #/**/#");
        Check.comesOut("1", "/**/#/**/define/**/a/**/1/**/\na");
        Check.comesOut("( p ) 1 ( 2 )", "#define a/**/(p) 1\na(2)");
        Check.comesOut("a", "#/**/\na");
    }

    /** "from // up to the next newline (which stays a newline)". */
    private static void lineComments() {
        Check.comesOut("a b", "a//x\nb");
        Check.comesOut("a b", "a//\nb");
        Check.comesOut("a b", "a// // /* $ abcdefghij\nb");
        Check.comesOut("a", "//*\na");
        Check.comesOut("a / / b", "a/ /b");
        Check.comesOut("1", "#define a 1//2\na");
        Check.comesOut("a 2", "a //\n#define a 2\na");
        Check.comesOut("a", "/\\\n/x\na");
        Check.comesOut("", "//x\\\na");
        Check.comesOut("1 #", "#//\n#define a 1 #\na");
        Check.comesOut("", "//" + "x".repeat(FULL - 2));
    }

    /** "a newline inside the first kind of comment does not count as one". */
    private static void newlinesInComments() {
        Check.comesOut("1 2", "#define a 1/*\n*/2\na");
        Check.comesOut("1", "/*\n*/#define a 1\na");
        Check.comesOut("a # b", "a/*\n*/#b");
        Check.comesOut("a 1", "a/*\n*/\n#define b 1\nb");
        Check.verdict(PhaseReader.DIRECTIVE, "#else/*\n*/x");
        Check.verdict(PhaseReader.CONDITION, "#else/*\n*/\nx");
        Check.comesOut("x", "#ifdef A\n/*\n#endif\n*/y\n#endif\nx");
    }

    /** "Where none of these can begin .. : CHARACTER": every character, alone in a file. */
    private static void firstCharacters() {
        for (char c = ' '; c <= '~'; c++) {
            boolean isToken = isWord(c) || PUNCTUATORS.indexOf(c) >= 0;
            int want = c == ' ' || c == '#' ? 0 : isToken ? PhaseReader.SYNTAX : PhaseReader.CHARACTER;
            Check.verdict(want, String.valueOf(c));
            if (isToken) {
                Check.comesOut("x " + c, "x " + c);
                Check.comesOut(c == '#' ? "" : String.valueOf(c), String.valueOf(c));
            }
        }
        Check.verdict(0, "\n");
    }

    /** "A token is as long as can be": every character behind a name, a number and a punctuator. */
    private static void furtherCharacters() {
        for (char c = ' '; c <= '~'; c++) {
            boolean isToken = isWord(c) || PUNCTUATORS.indexOf(c) >= 0;
            if (isToken) {
                Check.comesOut(isWord(c) ? "a" + c + "b" : "a " + c + " b", "a" + c + "b");
                Check.comesOut(isWord(c) ? "a" + c : "a " + c, "a" + c);
                Check.comesOut("+ " + c, "+" + c);
            }
            if (isWord(c)) {
                boolean isDigit = c >= '0' && c <= '9';
                Reader reader = Check.with("1" + c + "2");
                Check.due("translate of 1" + c + "2", reader.translate(0), isDigit ? PhaseReader.SYNTAX
                    : PhaseReader.NUMBER);
                Check.due("words of 1" + c + "2", Check.words(reader), "1" + c + "2");
            } else if (!isToken && c != ' ') {
                Check.verdict(PhaseReader.CHARACTER, "a" + c);
                Check.verdict(PhaseReader.CHARACTER, "1" + c);
                Check.verdict(PhaseReader.CHARACTER, "+" + c);
            }
        }
        for (char c : "()[]{};,+-*&<>".toCharArray()) {
            Check.comesOut(c + " " + c, "" + c + c);
        }
        Check.comesOut("= x == x == = x == ==", "= x == x === x ====");
        Check.comesOut("x # x ## x ## # x ## ##", "x # x ## x ### x ####");
        Check.comesOut("< = > = + = - = - > &", "<=>=+=-=->&");
        Check.comesOut("# =", "#define a # =\na");
    }

    /** "for a token of more than 9 characters: CHARACTER": every length that a file can hold. */
    private static void longestTokens() {
        for (int length = 1; length <= FULL; length++) {
            String name = "n".repeat(length);
            String number = "7".repeat(length);
            if (length <= 9) {
                Check.comesOut(name, name);
                Check.comesOut(number, number);
                Check.comesOut("_" + name.substring(1), "_" + name.substring(1));
                Check.verdict(0, "int " + name + "=" + number + ";");
            } else {
                Check.verdict(PhaseReader.CHARACTER, name);
                Check.verdict(PhaseReader.CHARACTER, number);
            }
        }
        Check.comesOut("abcdefghi ( abcdefghi + 123456789", "abcdefghi(abcdefghi+123456789");
    }

    /** The same, wherever such a token stands, but in a comment. */
    private static void tooLongTokens() {
        for (String file : new String[] {"#define abcdefghij", "#ifdef A\nabcdefghij\n#endif", "#abcdefghij",
            "abcde\\\nfghij", "int x;\nabcdefghij", "abcdefgh_9", "1abcdefghi", "#define a(abcdefghij)"}) {
            Check.verdict(PhaseReader.CHARACTER, file);
        }
        for (String file : new String[] {"#define abcdefghi", "#ifdef A\nabcdefghi\n#endif", "//abcdefghij",
            "/*abcdefghij*/", "#define a(abcdefghi)", "#undef abcde/**/\n//fghij"}) {
            Check.verdict(0, file);
        }
    }

    /** "for a comment without an end: COMMENT". */
    private static void commentsWithoutEnd() {
        for (String file : new String[] {"/*", "/*/", "/**", "/* *", "/* * /", "a/*", "/**//*", "/*\n", "/*//\n",
            "/\\\n*", "/*\n*\n/", "#ifdef A\n/*\n#endif", "#define a /*", "/*??/\n*\\", "//\n/*",
            "/*" + "*".repeat(FULL - 2), " ".repeat(FULL - 2) + "/*", "/*" + " ".repeat(FULL - 3) + "*"}) {
            Check.verdict(PhaseReader.COMMENT, file);
        }
        Check.verdict(0, "/*" + "*".repeat(FULL - 3) + "/");
        Check.verdict(0, " ".repeat(FULL - 4) + "/**/");
        Check.verdict(0, "/**\\\n/");
        Check.verdict(0, "/* *??/\n/");
        Check.verdict(0, "///*");
    }

    /** "(the first of these two that is met)". */
    private static void firstOfTheTwo() {
        Check.verdict(PhaseReader.CHARACTER, "$/*");
        Check.verdict(PhaseReader.COMMENT, "/*$");
        Check.verdict(PhaseReader.CHARACTER, "abcdefghij/*");
        Check.verdict(PhaseReader.COMMENT, "abcdefghi/*j");
        Check.verdict(PhaseReader.CHARACTER, "/**/$/*");
        Check.verdict(PhaseReader.CHARACTER, "\n$\n/*\n");
        Check.verdict(PhaseReader.COMMENT, "//$\n/*$");
        Check.verdict(PhaseReader.CHARACTER, "#include <1>\n$", "/*");
        Check.verdict(PhaseReader.COMMENT, "#include <1>\n", "/*$");
        Check.verdict(PhaseReader.CHARACTER, "#include <1>\n#include <2>\n", "$", "/*");
    }

    /** "The PLACE of a token is .. 1, and the number of newlines that stand before its first character". */
    private static void placesByLine() {
        for (int newlines = 0; newlines < FULL; newlines++) {
            Check.stands(String.valueOf(newlines + 1), "\n".repeat(newlines) + "x");
        }
        Check.stands("1 1 2 2 4", "a b\nc d\n\ne");
        Check.stands("1 2", "a\nb\n\n");
    }

    /** "in the file as it was written": joined lines, comments and directives have their newlines too. */
    private static void placesAsWritten() {
        Check.stands("1 2", "a\\\nb c");
        Check.stands("1", "a\\\nb");
        Check.stands("1 3", "a\\\nb\\\n c");
        Check.stands("2", "\\\na");
        Check.stands("3", "\\\n\\\na");
        Check.stands("2 2", "??/\na b");
        Check.stands("1 3", "a/*\n\n*/b");
        Check.stands("3", "//\n//\na");
        Check.stands("3", "//\\\n\na");
        Check.stands("3 4", "#define x\n#undef x\nx\nx");
        Check.stands("1 1 2 2", "??( ??)\n??< ??>");
        Check.stands("5", "#ifdef A\nb\n#else\n\nc\n#endif");
        Check.stands("1", "=\\\n=");
    }

    /** "1000 times its file". */
    private static void placesByFile() {
        Check.stands("1 1001 2001 2002 1003 3", "a\n#include <1>\nf", "b\n#include <2>\ne", "c\nd");
        Check.stands("1160 2160", "#include <1>\n#include <2>", "\n".repeat(159) + "x", "\n".repeat(159) + "y");
        for (int file = 0; file < 3; file++) {
            Reader reader = Check.with("x", "x", "x");
            reader.translate(file);
            Check.due("place in file " + file, reader.place(0), 1000 * file + 1);
        }
    }

    private static boolean isWord(char c) {
        return c >= 'a' && c <= 'z' || c >= 'A' && c <= 'Z' || c >= '0' && c <= '9' || c == '_';
    }
}
