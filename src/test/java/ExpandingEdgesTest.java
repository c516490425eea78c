/** The edges of EXPANDING (promises 6, 8, 9 and 11), a sentence of the document a method. */
public final class ExpandingEdgesTest {
    private static final String PASTE = "#define z(p,q) p##q\n";
    private static final String TEN = "#define t 1 2 3 4 5 6 7 8 9 0\n";

    public static void main(String[] args) {
        emptyHideSets();
        fromTheLeft();
        namesOfMacros();
        callMacroBehindItsName();
        numbersOfArguments();
        emptyArguments();
        closingParentheses();
        commas();
        callWithoutEnd();
        callBeforeRoom();
        tokensBetween();
        tokensReplaced();
        tokensReplacedInAll();
        faultsAroundTheLastReplaced();
        expandedArguments();
        expandedArgumentAtItsEnd();
        everyArgumentIsExpanded();
        argumentsAsTheyWere();
        rowsOfBody();
        emptyRows();
        chains();
        joinedKinds();
        joinedPunctuators();
        joinedLengths();
        joinedHideSets();
        placesOfReplacements();
        pastingOfOtherTokens();
        tokensOfReplacement();
        pasteBeforeRoom();
        hideSetOfPlainMacro();
        fullestHideSet();
        hideSetOfCallMacro();
        firstTokenOfReplacement();
        Check.end();
    }

    /** "Each token has a HIDE set of macros, empty for what comes from a file." */
    private static void emptyHideSets() {
        Check.counts(PhaseReader.SYNTAX, 3, 3, 1, "#define a a\na a a");
        Check.counts(PhaseReader.SYNTAX, 2, 2, 1, "#define a a\na\n#\na");
        Check.counts(PhaseReader.SYNTAX, 2, 2, 1, "#define a a\na\n#include <1>", "a");
        Check.counts(PhaseReader.SYNTAX, 8, 2, 1, "#define f(p) f(p)\nf(f(1))f");
        Check.comesOut("f ( f ( 1 ) ) f", "#define f(p) f(p)\nf(f(1))f");
    }

    /** "From the left": what stands further left is replaced, or goes wrong, before what stands behind it. */
    private static void fromTheLeft() {
        String head = "#define a 1\n#define f() 2\n#define z +##+\n";
        Check.counts(PhaseReader.PASTE, 0, 1, 3, head + "z f(");
        Check.counts(PhaseReader.CALL, 0, 0, 3, head + "f( z");
        Check.counts(PhaseReader.CALL, 0, 0, 3, head + "f(z) z");
        Check.counts(PhaseReader.PASTE, 0, 3, 3, head + "a f() z a f(");
        Check.counts(PhaseReader.CALL, 0, 2, 3, head + "a f() f( z a");
        Check.counts(PhaseReader.PASTE, 0, 2, 3, head + "a\n#\nz\n#x\nf(");
    }

    /** "a token T that is the name of a macro that is not in its hide set .. any other token comes out". */
    private static void namesOfMacros() {
        Check.comesOut("1 A aa _a a1 b", "#define a 1\na A aa _a a1 b");
        Check.comesOut("1 abcdefgh abcdefghj bbcdefghi", "#define abcdefghi 1\nabcdefghi abcdefgh abcdefghj bbcdefghi");
        Check.comesOut("", "#define a\na");
        Check.comesOut("a", "#define a a\na");
        Check.comesOut("a a", "#define a a a\na");
        Check.comesOut("a a", "#define a b\n#define b c\n#define c a\na a");
        Check.comesOut("7", "#define a b\n#define b c\n#define c d\n#define d e\n#define e g\n#define g h\n#define h i\n#define i 7\na");
    }

    /** "and, if that is a CALL macro, is followed in the list by (". */
    private static void callMacroBehindItsName() {
        String head = "#define f(p) [p]\n";
        Check.comesOut("f", head + "f");
        Check.comesOut("[ ]", head + "f()");
        Check.comesOut("[ ]", head + "f ( )");
        Check.comesOut("[ ]", head + "f\n(\n)");
        Check.comesOut("f ; ( )", head + "f;()");
        Check.comesOut("f )", head + "f)");
        Check.comesOut("f [ ]", head + "f f()");
        Check.comesOut("[ f ] ( 1 )", head + "f(f)(1)");
        Check.comesOut("[ f ] ( 1 )", head + "f(f )(1)");
        Check.comesOut("[ 1 ]", head + "#define e\n#define g f e\n#define h f\nh(1)");
        Check.comesOut("f ( 1 )", head + "#define o (\nf o 1)");
        Check.comesOut("[ 1 ]", head + "#define g f\ng(1)");
        Check.comesOut("[ 1 ]", head + "#define g f(\ng 1)");
    }

    /** "or there are not as many arguments as parameters": every number beside every other. */
    private static void numbersOfArguments() {
        String[] heads = {"f()", "f(p)", "f(p,q)", "f(p,q,r)"};
        for (int parameters = 0; parameters < heads.length; parameters++) {
            for (int arguments = 1; arguments <= 6; arguments++) {
                boolean fits = arguments == parameters;
                boolean none = arguments == 1 && parameters == 0;
                String define = "#define " + heads[parameters] + " x\n";
                numberOfArguments(fits, define + "f(1" + ",1".repeat(arguments - 1) + ")");
                numberOfArguments(fits || none, define + "f(" + ",".repeat(arguments - 1) + ")");
            }
        }
    }

    private static void numberOfArguments(boolean fits, String file) {
        int one = fits ? 1 : 0;
        Check.counts(fits ? PhaseReader.SYNTAX : PhaseReader.CALL, one, one, 1, file);
    }

    /** "nothing between them is one empty argument, or none if the macro has no parameters". */
    private static void emptyArguments() {
        Check.comesOut("[ ]", "#define f(p) [p]\nf()");
        Check.comesOut("[ ]", "#define f(p) [p]\nf(/**/\n)");
        Check.comesOut("[ ]", "#define f() []\nf()");
        Check.comesOut("[ ]", "#define f() []\nf(/**/\n)");
        Check.comesOut("[ + ]", "#define f(p,q) [p+q]\nf(,)");
        Check.comesOut("[ + - 1 ]", "#define f(p,q,r) [p+q-r]\nf(,,1)");
        Check.comesOut("[ ]", "#define e\n#define f(p) [p]\nf(e)");
        Check.verdict(PhaseReader.CALL, "#define e\n#define f() []\nf(e)");
        Check.verdict(PhaseReader.CALL, "#define f(p,q) []\nf()");
        Check.verdict(PhaseReader.CALL, "#define f() []\nf(())");
    }

    /** "(every ( is closed by the next ) that is free)". */
    private static void closingParentheses() {
        String head = "#define f(p) [p]\n";
        Check.comesOut("[ ( ) ]", head + "f(())");
        Check.comesOut("[ ] )", head + "f())");
        Check.comesOut("[ ( 1 ) ( 2 ) ] ( 3 )", head + "f((1)(2))(3)");
        Check.comesOut("[ ( ( ) ( ) ) ]", head + "f((()()))");
        Check.comesOut("[ [ 1 ] ] [ 2 ]", head + "f(f(1))f(2)");
        Check.comesOut("[ { ] } [ ]", head + "f({)}f()");
    }

    /** "cut at the commas that are in no further parentheses". */
    private static void commas() {
        String head = "#define f(p,q) [p;q]\n";
        Check.comesOut("[ 1 ; 2 ]", head + "f(1,2)");
        Check.comesOut("[ ( 1 , 2 ) ; 3 ]", head + "f((1,2),3)");
        Check.comesOut("[ ( ( , ) , ) ; ( , ) ]", head + "f(((,),),(,))");
        Check.comesOut("[ { ; } ]", head + "f({,})");
        Check.verdict(PhaseReader.CALL, head + "f((1,2))");
        Check.verdict(PhaseReader.CALL, head + "f([1,2],3)");
        Check.verdict(PhaseReader.CALL, head + "#define c ,\nf(1 c 2)");
        Check.comesOut("[ , ; , ]", head + "#define c ,\nf(c,c)");
    }

    /** "CALL if there is no such ) in the list". */
    private static void callWithoutEnd() {
        String head = "#define f(p) [p]\n#define g() 1\n";
        for (String text : new String[] {"f(", "f(1", "f((1)", "f((", "f(()", "f(f(1)", "f(f", "g(", "g(()", "f(1\n",
            "x f(", "f(1,", "f(g("}) {
            Check.counts(PhaseReader.CALL, 0, 0, 2, head + text);
        }
        Check.verdict(PhaseReader.CALL, head + "f(1\n#\n)");
        Check.verdict(PhaseReader.CALL, head + "f(1\n#include <1>\n", ")");
        Check.counts(PhaseReader.CALL, 0, 1, 3, head + "#define o f(\no");
        Check.counts(PhaseReader.CALL, 0, 2, 3, head + "#define o f(\nf(o)1)");
        Check.comesOut("[ 1 ]", head + "#define o f(\no 1)");
    }

    /** "CALL ..; else ROOM". */
    private static void callBeforeRoom() {
        String many = "+".repeat(41);
        Check.counts(PhaseReader.CALL, 0, 0, 1, "#define f(p)\nf(" + many);
        Check.counts(PhaseReader.CALL, 0, 0, 1, "#define f()\nf(" + many + ")");
        Check.counts(PhaseReader.CALL, 0, 0, 1, "#define f(p)\nf(," + many + ")");
        Check.counts(PhaseReader.CALL, 0, 0, 1, "#define f(p,q)\nf(" + many + ")");
        Check.counts(PhaseReader.ROOM, 0, 0, 1, "#define f(p)\nf(" + many + ")");
    }

    /** "ROOM if more than 40 tokens stand between ( and )". */
    private static void tokensBetween() {
        for (int between = 38; between <= 43; between++) {
            boolean fits = between <= 40;
            int code = fits ? PhaseReader.SYNTAX : PhaseReader.ROOM;
            int one = fits ? 1 : 0;
            Check.counts(code, one, one, 1, "#define f(p) x\nf(" + "+".repeat(between) + ")");
            Check.counts(code, one, one, 1, "#define f(p,q) x\nf(" + "+".repeat(between - 1) + ",)");
            Check.counts(code, one, one, 1, "#define f(p,q,r) x\nf(," + "+".repeat(between - 2) + ",)");
            Check.counts(code, one, one, 1, "#define f(p) x\nf((" + "+".repeat(between - 2) + "))");
        }
        Check.counts(PhaseReader.ROOM, 0, 0, 1, "#define f(p)\nf(" + "+".repeat(144) + ")");
        Check.counts(PhaseReader.SYNTAX, 42, 1, 1, "#define f(p)\n" + "+".repeat(21) + "f()" + "+".repeat(21));
    }

    /** "ROOM if 30 tokens were replaced before in this translation, else this one counts as replaced". */
    private static void tokensReplaced() {
        for (int count = 28; count <= 33; count++) {
            int code = count <= 30 ? 0 : PhaseReader.ROOM;
            Check.counts(code, 0, Math.min(count, 30), 1, "#define a\n" + "a ".repeat(count));
            Check.counts(code, 0, Math.min(count, 30), 1, "#define a()\n" + "a()".repeat(count));
        }
        Check.counts(PhaseReader.ROOM, 0, 30, 1, "#define a\n" + "a ".repeat(74));
        Check.counts(PhaseReader.SYNTAX, 30, 30, 1, "#define a 1\n" + "a ".repeat(30));
    }

    /** The same, "in this translation": over groups, files, arguments and replacements. */
    private static void tokensReplacedInAll() {
        Check.counts(0, 0, 30, 1, "#define a\n" + "a\n#\n".repeat(30));
        Check.counts(PhaseReader.ROOM, 0, 30, 1, "#define a\n" + "a\n#\n".repeat(31));
        Check.counts(0, 0, 30, 1, "#define a\n" + "a ".repeat(15) + "\n#include <1>", "a ".repeat(15));
        Check.counts(PhaseReader.ROOM, 0, 30, 1, "#define a\n" + "a ".repeat(15) + "\n#include <1>\na",
            "a ".repeat(15));
        Check.counts(0, 0, 30, 2, "#define a b b\n#define b\n" + "a ".repeat(10));
        Check.counts(PhaseReader.ROOM, 0, 30, 2, "#define a b b\n#define b\n" + "a ".repeat(10) + "b");
        Check.counts(0, 0, 30, 1, "#define f(p)\n" + "f(f(f()))".repeat(10));
        Check.counts(PhaseReader.ROOM, 0, 30, 1, "#define f(p)\n" + "f(f(f()))".repeat(10) + "f()");
        Check.counts(PhaseReader.ROOM, 0, 30, 1, "#define f(p)\n" + "f(f(f()))".repeat(9) + "f(f(f(f())))");
        Reader reader = Check.with("#define a\n" + "a ".repeat(31));
        for (int turn = 0; turn < 3; turn++) {
            Check.due("31 replaced", reader.translate(0), PhaseReader.ROOM);
            Check.due("replaced", reader.replaced(), 30);
        }
    }

    /** What is looked at before and behind the count of 30. */
    private static void faultsAroundTheLastReplaced() {
        String thirty = "#define a\n#define f(p) p\n#define z +##+\n" + "a ".repeat(29);
        Check.counts(PhaseReader.CALL, 0, 30, 3, thirty + "a f(");
        Check.counts(PhaseReader.CALL, 0, 30, 3, thirty + "a f(1,2)");
        Check.counts(PhaseReader.ROOM, 0, 30, 3, thirty + "a f(1)");
        Check.counts(PhaseReader.SYNTAX, 1, 30, 3, thirty + "a f");
        Check.counts(PhaseReader.PASTE, 0, 30, 3, thirty + "z");
        Check.counts(PhaseReader.ROOM, 0, 30, 3, thirty + "a z");
        Check.counts(PhaseReader.ROOM, 0, 30, 3, thirty + "f(a)");
        Check.counts(PhaseReader.ROOM, 0, 30, 3, thirty + "f(z)");
        Check.counts(PhaseReader.CALL, 0, 30, 3, thirty + "f(f(1,2))");
    }

    /** "ROOM as soon as one has come to more than 40 tokens". */
    private static void expandedArguments() {
        Check.counts(0, 0, 4, 2, TEN + "#define f(p)\nf(t t t 1 1 1 1 1 1 1 1 1)");
        Check.counts(0, 0, 5, 2, TEN + "#define f(p)\nf(t t t t)");
        Check.counts(0, 0, 4, 2, TEN + "#define f(p)\nf(t t t 1 1 1 1 1 1 1 1 1 1)");
        Check.counts(PhaseReader.ROOM, 0, 5, 2, TEN + "#define f(p)\nf(t t t t 1)");
        Check.counts(PhaseReader.ROOM, 0, 6, 2, TEN + "#define f(p)\nf(t t t t t)");
        Check.counts(0, 0, 9, 2, TEN + "#define f(p,q)\nf(t t t t,t t t t)");
        Check.counts(PhaseReader.ROOM, 0, 9, 2, TEN + "#define f(p,q)\nf(t t t t,t t t t+)");
        Check.counts(0, 0, 13, 2, TEN + "#define f(p,q,r)\nf(t t t t,t t t t,t t t t)");
        Check.counts(PhaseReader.ROOM, 0, 13, 2, TEN + "#define f(p,q,r)\nf(t t t t,t t t t,+t t t t)");
    }

    /** "as soon as one has come to more than 40 tokens at its end": not before, and no other is expanded behind it. */
    private static void expandedArgumentAtItsEnd() {
        String head = TEN + "#define f(p,q)\n#define g()\n";
        Check.counts(PhaseReader.ROOM, 0, 5, 3, head + "f(t t t t+,t)");
        Check.counts(PhaseReader.ROOM, 0, 5, 3, head + "f(t t t t+,g(1))");
        Check.counts(PhaseReader.CALL, 0, 5, 3, head + "f(t t t t+g(1),)");
        Check.counts(PhaseReader.ROOM, 0, 7, 3, head + "f(t t t t+t t,)");
        Check.counts(PhaseReader.CALL, 0, 1, 3, head + "f(g(1),t t t t+)");
        Check.counts(0, 0, 9, 3, head + "f(g()t g()t g()t t g(),)");
        Check.counts(PhaseReader.SYNTAX, 50, 5, 3, head + "t t t t t");
    }

    /** "Then each argument is expanded, as a list of its own, in order". */
    private static void everyArgumentIsExpanded() {
        Check.counts(0, 0, 3, 2, "#define a\n#define f(p)\nf(a a)");
        Check.counts(PhaseReader.SYNTAX, 2, 2, 2, "#define a 1\n#define f(p) x##p p\nf(a)");
        Check.counts(PhaseReader.SYNTAX, 1, 2, 2, "#define a 1\n#define f(p) x##p\nf(a)");
        Check.counts(PhaseReader.CALL, 0, 1, 2, "#define a(p)\n#define f(p,q)\nf(a(1,2),a())");
        Check.counts(PhaseReader.CALL, 0, 2, 2, "#define a(p)\n#define f(p,q)\nf(a(),a(1,2))");
        Check.verdict(PhaseReader.CALL, "#define f(p) [p]\n#define g f(\nf(g)1)");
        Check.comesOut("[ f ] ( 1 )", "#define f(p) [p]\nf(f)(1)");
    }

    /** "a parameter gives its expanded argument, or, if ## stands before or behind it in the body, the argument as it was". */
    private static void argumentsAsTheyWere() {
        String head = "#define a 5\n";
        Check.comesOut("5", head + "#define f(p) p\nf(a)");
        Check.comesOut("xa", head + "#define f(p) x##p\nf(a)");
        Check.comesOut("ax", head + "#define f(p) p##x\nf(a)");
        Check.comesOut("xax", head + "#define f(p) x##p##x\nf(a)");
        Check.comesOut("5 xa 5", head + "#define f(p) p x##p p\nf(a)");
        Check.comesOut("5 ax 5", head + "#define f(p) p p##x p\nf(a)");
        Check.comesOut("aa", head + "#define f(p) p##p\nf(a)");
        Check.comesOut("5 ab", head + "#define f(p,q) p p##q\nf(a,b)");
        Check.comesOut("5 x1", head + "#define f(p) p x##1\nf(a)");
        Check.comesOut("x1 5", head + "#define f(p) x##1 p\nf(a)");
        Check.comesOut("5 5", head + "#define z(p,q) p##q\nz(a,)z(,a)");
    }

    /** "Each token of the body that is no ## gives a ROW: itself"; "Rows with no ## between them are put one behind the other." */
    private static void rowsOfBody() {
        Check.comesOut("q 1 ( # , p1", "#define f(p) q p ( # , p1\nf(1)");
        Check.comesOut("1 2 1 2", "#define f(p) p p\nf(1 2)");
        Check.comesOut("", "#define f(p) p p p p p p p p p p p p\nf()");
        Check.comesOut("1 1 1 1 1 1 1 1 1 1 1 1", "#define f(p) p p p p p p p p p p p p\nf(1)");
        Check.comesOut("2 1 3", "#define f(p,q,r) q p r\nf(1,2,3)");
        Check.comesOut("", "#define f(p)\nf(1)");
    }

    /** "if what is there so far or the next row is empty, the other one is what is there then". */
    private static void emptyRows() {
        Check.comesOut("", PASTE + "z(,)");
        Check.comesOut("1 2", PASTE + "z(1 2,)");
        Check.comesOut("1 2", PASTE + "z(,1 2)");
        Check.comesOut("x y", "#define f(p,q) x p##q y\nf(,)");
        Check.comesOut("x 1 y", "#define f(p,q) x p##q y\nf(,1)");
        Check.comesOut("x 1 y", "#define f(p,q) x p##q y\nf(1,)");
        Check.comesOut("+ + +", "#define f(p) + p##+ +\nf()");
        Check.comesOut("+ + +", "#define f(p) + + ##p +\nf()");
        Check.comesOut("+ -", "#define f(p) + p##p -\nf()");
    }

    /** "Rows with ## between them, a CHAIN such as a ## b ## c, are put together from the left". */
    private static void chains() {
        Check.comesOut("abc", "#define f a##b##c\nf");
        Check.comesOut("abcdefghi", "#define f a##b##c##d##efghi\nf");
        String head = "#define f(p,q,r) p##q##r\n";
        Check.comesOut("123", head + "f(1,2,3)");
        Check.comesOut("13", head + "f(1,,3)");
        Check.comesOut("12", head + "f(1,2,)");
        Check.comesOut("23", head + "f(,2,3)");
        Check.comesOut("3", head + "f(,,3)");
        Check.comesOut("2", head + "f(,2,)");
        Check.comesOut("1", head + "f(1,,)");
        Check.comesOut("", head + "f(,,)");
        Check.comesOut("1 23 45 6", head + "f(1 2,3 4,5 6)");
        Check.comesOut("1 24 5", head + "f(1 2,,4 5)");
        Check.comesOut("x 12 y 3", "#define f(p,q) x 1##p y 3##q\nf(2,)");
        Check.verdict(PhaseReader.PASTE, "#define f = ## = ## =\nf");
        Check.verdict(PhaseReader.PASTE, "#define f # ## # ## a\nf");
        Check.verdict(PhaseReader.PASTE, "#define f a ## + ## b\nf");
        Check.verdict(PhaseReader.NUMBER, "#define f 1##a##2\nf");
    }

    /** "PASTE if that is no NAME, NUMBER or PUNCTUATOR": names and numbers. */
    private static void joinedKinds() {
        Check.comesOut("ab", PASTE + "z(a,b)");
        Check.comesOut("a1", PASTE + "z(a,1)");
        Check.comesOut("12", PASTE + "z(1,2)");
        Check.comesOut("_", PASTE + "z(_,)");
        Check.comesOut("__", PASTE + "z(_,_)");
        Reader reader = Check.translated(PASTE + "z(1,a)");
        Check.due("verdict of 1##a", reader.verdict(), PhaseReader.NUMBER);
        Check.due("words of 1##a", Check.words(reader), "1a");
        Check.comesOut("7", "#define ab 7\n" + PASTE + "z(a,b)");
        Check.comesOut("typedef", PASTE + "z(type,def)");
    }

    /** The same: of the punctuators only # # and = = make another one. */
    private static void joinedPunctuators() {
        String[] tokens = {"(", ")", "[", "]", "{", "}", ";", ",", "=", "+", "-", "*", "/", "&", "<", ">", "#", "==",
            "a", "1"};
        for (String left : tokens) {
            for (String right : tokens) {
                boolean words = "a1".contains(left) && "a1".contains(right);
                boolean twice = left.equals(right) && (left.equals("=") || left.equals("#"));
                String file = "#define x " + left + " ## " + right + "\n;x";
                int code = left.equals("1") && right.equals("a") ? PhaseReader.NUMBER : PhaseReader.SYNTAX;
                Check.counts(words || twice ? code : PhaseReader.PASTE, words || twice ? 2 : 0, 1, 1, file);
            }
        }
        for (String arguments : new String[] {"##,##", "##,#", "#,##", "##,a", "a,##", "##,1", "==,=", "=,==", "==,==",
            "=,#", "#,="}) {
            Check.verdict(PhaseReader.PASTE, PASTE + "z(" + arguments + ")");
        }
    }

    /** "of at most 9 characters". */
    private static void joinedLengths() {
        for (int left = 1; left <= 9; left++) {
            for (int right = 1; right <= 9; right++) {
                String name = "n".repeat(left) + "," + "m".repeat(right);
                String number = "7".repeat(left) + "," + "8".repeat(right);
                if (left + right <= 9) {
                    Check.comesOut(name.replace(",", ""), PASTE + "z(" + name + ")");
                    Check.comesOut(number.replace(",", ""), PASTE + "z(" + number + ")");
                } else {
                    Check.verdict(PhaseReader.PASTE, PASTE + "z(" + name + ")");
                    Check.verdict(PhaseReader.PASTE, PASTE + "z(" + number + ")");
                }
            }
        }
        Check.comesOut("123456789", "#define x 1##2##3##4##56789\nx");
        Check.verdict(PhaseReader.PASTE, "#define x 1##2##3##4##567890\nx");
    }

    /** "JOINED into one token, which .. has .. as hide set what both hide sets have in common". */
    private static void joinedHideSets() {
        Check.comesOut("ab", PASTE + "#define ab z(a,b)\nab");
        Check.comesOut("7", PASTE + "#define ab 7\n#define x z(a,b)\nx");
        Check.comesOut("z ( a ,", PASTE + "#define ab z(a,\nab b)");
        Check.comesOut("z ( b ,", "#define z(p,q) q##p\n#define ab z(b,\nab a)");
        Check.comesOut("ab", PASTE + "#define ab z(a,b\nab)");
        Check.comesOut("ab", "#define ab z(b,a\n#define z(p,q) q##p\nab)");
        Check.comesOut("abc", "#define z(p,q,r) p##q##r\n#define abc z(a,b,c\nabc)");
        Check.comesOut("z ( a , b ,", "#define z(p,q,r) p##q##r\n#define abc z(a,b,\nabc c)");
        Check.comesOut("z ( b , c ,", "#define z(p,q,r) r##p##q\n#define abc z(b,c,\nabc a)");
        Check.comesOut("7 b", "#define y(p) p b\n#define ab 7\n" + PASTE + "y(z(a,b))");
        Check.comesOut("z", "#define z y##z\n#define yz z\nz");
        Check.comesOut("a", "#define f(p) p##p\n#define aa a\nf(a)");
    }

    /** "itself, with .. the place of T"; "the argument"; "JOINED .. has the place of T". */
    private static void placesOfReplacements() {
        Check.stands("3 3", "#define x 1 2\n\nx");
        Check.stands("2", "#define x y\nx\n#undef x");
        Check.stands("4", "#define x y\n#define y 1\n\nx");
        Check.stands("2 4 2", "#define f(p) [p]\nf(\n\n1\n)");
        Check.stands("2", PASTE + "z(\n1,\n2)");
        Check.stands("3 2 5", PASTE + "z(\n1\n2,3\n4)");
        Check.stands("3", PASTE + "z(\n1,)");
        Check.stands("3", PASTE + "z(,\n1)");
        Check.stands("2 2", "#include <1>\nx", "\n\n#define x 1 2");
        Check.stands("1002 1002 3", "#define x 1 2\n#include <1>\ny", "\nx");
        Check.stands("3", PASTE + "#define ab z(a,b)\nab");
        Check.stands("3", PASTE + "#define ab z(a,b\nab\n)");
        Check.stands("3 3 4", PASTE + "#define ab z(a,b c\nab\n)d");
    }

    /** "(a ## that came from an argument or by joining is a token like others)". */
    private static void pastingOfOtherTokens() {
        Check.comesOut("a ## b", "#define f(p) p\nf(a ## b)");
        Check.comesOut("a ## b", "#define f(p) a p b\nf(##)");
        Check.comesOut("a ## b", "#define f(p,q) a p##q b\nf(#,#)");
        Check.comesOut("a ## b", "#define x # ## #\na x b");
        Check.comesOut("a ## b", "#define f(p) p\n#define x # ## #\nf(a x b)");
        Check.comesOut("##", PASTE + "z(##,)");
    }

    /** "Last, ROOM if the replacement has more than 40 tokens." */
    private static void tokensOfReplacement() {
        for (int count = 17; count <= 23; count++) {
            int code = 2 * count <= 40 ? PhaseReader.SYNTAX : PhaseReader.ROOM;
            Check.counts(code, 2 * count <= 40 ? 2 * count : 0, 1, 1, "#define f(p) p p\nf(" + "+".repeat(count) + ")");
        }
        Check.counts(PhaseReader.SYNTAX, 40, 1, 1, "#define f(p) p\nf(" + "+".repeat(40) + ")");
        Check.counts(PhaseReader.ROOM, 0, 1, 1, "#define f(p) p;\nf(" + "+".repeat(40) + ")");
        Check.counts(PhaseReader.SYNTAX, 40, 1, 1, "#define f(p) p;\nf(" + "+".repeat(39) + ")");
        Check.counts(PhaseReader.ROOM, 0, 1, 1, "#define f(p) p p p p p p p p p p p p\nf(" + "+".repeat(40) + ")");
        Check.counts(PhaseReader.ROOM, 0, 1, 1, "#define f(p) p p p p p p p p p p##p\nf(" + "1 ".repeat(40) + ")");
        Check.counts(PhaseReader.ROOM, 0, 1, 1, "#define f(p) p##p p p p p p p p p p\nf(" + "1 ".repeat(40) + ")");
        Check.counts(PhaseReader.ROOM, 0, 1, 1, "#define f(p) p##p##p##p##p##p\nf(" + "1 ".repeat(40) + ")");
        Check.counts(PhaseReader.SYNTAX, 40, 1, 1, "#define f(p) p p##1\nf(" + "1 ".repeat(20) + ")");
        Check.counts(PhaseReader.ROOM, 0, 1, 1, "#define f(p) p p 1\nf(" + "1 ".repeat(20) + ")");
        Check.counts(PhaseReader.ROOM, 0, 2, 2, TEN + "#define f(p) p p p p +\nf(t)");
        Check.counts(PhaseReader.SYNTAX, 40, 2, 2, TEN + "#define f(p) p p p p\nf(t)");
    }

    /** "PASTE ..": before that "last" ROOM. */
    private static void pasteBeforeRoom() {
        String many = "+".repeat(40);
        Check.verdict(PhaseReader.PASTE, "#define f(p) p p + ## +\nf(" + many + ")");
        Check.verdict(PhaseReader.PASTE, "#define f(p) + ## + p p\nf(" + many + ")");
        Check.verdict(PhaseReader.PASTE, "#define f(p) p##p p\nf(" + many + ")");
        Check.verdict(PhaseReader.ROOM, "#define f(p) p p 1 ## 1\nf(" + many + ")");
    }

    /** "To the hide set of each of its tokens the macro is added, and the hide set of T". */
    private static void hideSetOfPlainMacro() {
        Check.comesOut("a", "#define a a\na");
        Check.comesOut("a b", "#define a b\n#define b a\na b");
        Check.comesOut("a b c", "#define a b\n#define b c\n#define c a\na b c");
        Check.comesOut("a + a ; b + b", "#define a b+b\n#define b a\na;b");
        Check.comesOut("a a", "#define a a\n#define f(p) p p\nf(a)");
        Check.comesOut("a ; a", "#define a a\na;a");
    }

    /** The fullest hide set, of all 8 macros. */
    private static void fullestHideSet() {
        String chain = "#define a b\n#define b c\n#define c d\n#define d e\n#define e f\n#define f g\n#define g h\n";
        Check.comesOut("a x", chain + "#define h a x\na");
        Check.stands("9 9 10", chain + "#define h a x\na\ny");
        Check.counts(PhaseReader.SYNTAX, 2, 8, 8, chain + "#define h a x\na");
        Check.comesOut("b x", chain + "#define h a x\nb");
        Check.comesOut("h x g x f x", chain + "#define h a x\nh g f");
        Check.counts(PhaseReader.SYNTAX, 6, 24, 8, chain + "#define h a x\nh g f");
        Check.counts(PhaseReader.ROOM, 0, 30, 8, chain + "#define h a x\nh g f e");
        Check.comesOut("h ( ) x", "#define a b()\n#define b() c()\n#define c() d()\n#define d() e()\n#define e() f()\n#include <1>\nh()",
            "#define f() g()\n#define g() h()\n#define h() a x\n");
    }

    /** "(for a CALL macro: what the hide sets of T and of the closing ) have in common)". */
    private static void hideSetOfCallMacro() {
        Check.comesOut("f ( 1 )", "#define f(p) f(p)\nf(1)");
        Check.comesOut("1 1 h", "#define f() 1 h\n#define h() f\nf()()()");
        Check.comesOut("f", "#define f() h()\n#define h() f\nf()");
        Check.comesOut("f ( 1 )", "#define f(p) p\nf(f)(1)");
        Check.comesOut("f ( 1 )", "#define f(p) p f\nf()(1)");
        Check.comesOut("f ( 1 )", "#define f(p) p##p\n#define ff f\nf(f)(1)");
        Check.comesOut("1 ( 2 )", "#define f(p) p\n#define g(p) p\nf(g)(1)(2)");
        Check.comesOut("2 * 9 * g", "#define f(a) a*g\n#define g(a) f(a)\nf(2)(9)");
        Check.comesOut("f ( 1 )", "#define g f\n#define f(p) p g\nf()(1)");
        Check.comesOut("x", "#define x g(x\n#define g(p) p\nx)");
        Check.comesOut("x ( )", "#define x g()\n#define g() x ()\nx");
    }

    /** "The replacement takes the place of T .., and it goes on with its first token." */
    private static void firstTokenOfReplacement() {
        Check.comesOut("1", "#define a b\n#define b 1\na");
        Check.comesOut("[ 1 ]", "#define a f\n#define f(p) [p]\na(1)");
        Check.comesOut("[ 1 ]", "#define e\n#define f(p) [p]\n#define a f(1)\ne a");
        Check.comesOut("1 2", "#define f(p) p\nf(1)2");
        Check.comesOut("[ 2 ]", "#define g(p) f\n#define f(p) [p]\ng(1)(2)");
        Check.comesOut("[ ]", "#define e\n#define f(p) [p]\nf(e)");
    }
}
