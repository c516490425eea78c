/** Promises 6, 9 and 10 as far as READING goes: trigraphs, joined lines, tokens and their places. */
public final class ReadingTest {
    public static void main(String[] args) {
        trigraphs();
        joinedLines();
        comments();
        tokens();
        places();
        firstFault();
        Check.end();
    }

    private static void trigraphs() {
        Check.comesOut("x [ ] { }", "x ??(??)??<??>");
        Check.comesOut("a", "??=define x a\nx");
        Check.comesOut("a ## b", "a ??=??= b");
        Check.comesOut("a ## b", "a #??= b");
        Check.comesOut("ab", "a??/\nb");
        Check.comesOut("b", "//??/\na\nb");
        String[] faults = {"??'", "??!", "??-", "??/", "??", "?", "???=", "????(", "??a", "?\\\n?=", "??\\\n="};
        for (String fault : faults) {
            Check.verdict(PhaseReader.CHARACTER, fault);
        }
        Check.comesOut("", "/*??'??!??-??/??*/");
        Check.comesOut("", "/*???/*/");
    }

    private static void joinedLines() {
        Check.comesOut("abc", "a\\\nb\\\nc");
        Check.comesOut("ab", "a\\\n\\\nb");
        Check.comesOut("1 == 2", "1=\\\n=2");
        Check.comesOut("", "\\\n");
        Check.comesOut("a", "/\\\n* x *\\\n/a");
        Check.comesOut("b", "/\\\n/ x\\\n y\nb");
        Check.comesOut("2 + 1 b", "#define a 2\\\n+ 1 b\na");
        Check.verdict(PhaseReader.CHARACTER, "a\\\\\n\nb");
        Check.verdict(PhaseReader.CHARACTER, "a\\ \nb");
        Check.verdict(PhaseReader.CHARACTER, "a\\");
        Check.verdict(PhaseReader.CHARACTER, "a??/");
        Check.verdict(PhaseReader.DIRECTIVE, "#else\\\nx");
    }

    private static void comments() {
        Check.comesOut("a b", "a/**/b");
        Check.comesOut("a b", "a/* // * / \" */b");
        Check.comesOut("a b", "a/***/b");
        Check.comesOut("a / b", "a/ /**/b");
        Check.comesOut("a b", "a// /* $\nb");
        Check.comesOut("a", "a//");
        Check.comesOut("* / a", "*/a");
        Check.comesOut("b", "#define a /*\n*/ b\na");
        Check.comesOut("b", "/*\n*/#define a b\na");
        Check.comesOut("b # define c b", "b/*\n*/#define c b");
        Check.verdict(PhaseReader.COMMENT, "a /*");
        Check.verdict(PhaseReader.COMMENT, "/*/");
        Check.verdict(PhaseReader.COMMENT, "/* * /\n");
        Check.verdict(PhaseReader.COMMENT, "//\n/*");
    }

    private static void tokens() {
        Check.comesOut("( ) [ ] { } ; , = + - * / & < > #", "()[]{};,=+-*/&<> #");
        Check.comesOut("a ## # == = == - -", "a###=== ==--");
        Check.comesOut("_a1 Z_9 _", "_a1 Z_9 _");
        Check.comesOut("a 12 + 1", "a 12+1");
        Check.verdict(PhaseReader.NUMBER, "0_x");
        Check.verdict(PhaseReader.NUMBER, "9z");
        Check.comesOut("abcdefghi 123456789", "abcdefghi 123456789");
        Check.verdict(PhaseReader.CHARACTER, "abcdefghij");
        Check.verdict(PhaseReader.CHARACTER, "1234567890");
        Check.verdict(PhaseReader.CHARACTER, "abcde\\\nfghij");
        Check.comesOut("", "// abcdefghij");
        String others = "!\"$%'.:?@\\^`|~";
        for (char c : others.toCharArray()) {
            Check.verdict(PhaseReader.CHARACTER, "int x" + c + ";");
        }
        Reader reader = Check.with("ab == 7");
        reader.translate(0);
        Check.due("spelling(0, 0)", reader.spelling(0, 0), 'a');
        Check.due("spelling(0, 1)", reader.spelling(0, 1), 'b');
        Check.due("spelling(0, 2)", reader.spelling(0, 2), 0);
        Check.due("spelling(1, 1)", reader.spelling(1, 1), '=');
        Check.due("spelling(2, 0)", reader.spelling(2, 0), '7');
        Check.due("spelling(2, 1)", reader.spelling(2, 1), 0);
        Check.due("spelling(2, -1)", reader.spelling(2, -1), 0);
        Check.due("spelling(2, most)", reader.spelling(2, Integer.MAX_VALUE), 0);
        Check.due("spelling(2, least)", reader.spelling(2, Integer.MIN_VALUE), 0);
        Check.due("spelling(3, 0)", reader.spelling(3, 0), -1);
        Check.due("spelling(3, -1)", reader.spelling(3, -1), -1);
        Check.due("spelling(-1, 0)", reader.spelling(-1, 0), -1);
        Check.comesOut("abcdefghi", "abcdefghi");
    }

    private static void places() {
        placesOf("a b\nc\n\nd", "a b c d", "1 1 2 4");
        placesOf("a\\\n\\\nb c", "ab c", "1 3");
        placesOf("\\\na", "a", "2");
        placesOf("a /*\n\n*/ ??(??/\n??)", "a [ ]", "1 3 4");
        placesOf("\n//\n\n  x", "x", "4");
        Reader reader = Check.with("a\n#include <2>\nb", "e", "\nc d\n#include <1>\n");
        reader.translate(0);
        Check.due("words over files", Check.words(reader), "a c d e b");
        Check.due("places over files", Check.places(reader), "1 2002 2002 1001 3");
        Check.due("place(5)", reader.place(5), -1);
        Check.due("place(-1)", reader.place(-1), -1);
        reader.translate(2);
        Check.due("places of file 2", Check.places(reader), "2002 2002 1001");
        placesOf("\n".repeat(159) + "x", "x", "160");
    }

    private static void placesOf(String text, String words, String want) {
        Reader reader = Check.with(text);
        reader.translate(0);
        Check.due("words of " + text, Check.words(reader), words);
        Check.due("places of " + text, Check.places(reader), want);
    }

    private static void firstFault() {
        Check.verdict(PhaseReader.CHARACTER, "$ /*");
        Check.verdict(PhaseReader.COMMENT, "/* $");
        Check.verdict(PhaseReader.CHARACTER, "#endif\n$");
        Check.verdict(PhaseReader.CHARACTER, "#ifdef A\n$\n#endif\n");
        Check.verdict(PhaseReader.COMMENT, "#foo\n/*");
        Check.verdict(PhaseReader.CONDITION, "#endif\n#include <1>", "$");
        Check.verdict(PhaseReader.CHARACTER, "#include <1>\n#endif", "$");
        Check.verdict(PhaseReader.COMMENT, "#ifdef A\n#include <1>\n#endif\n#include <2>", "$", "/*");
    }
}
