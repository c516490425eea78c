/** Promises 6, 8 and 11 as far as EXPANDING goes. */
public final class ExpandingTest {
    public static void main(String[] args) {
        plainMacros();
        callMacros();
        callFaults();
        hideSets();
        pasting();
        argumentsOfPasting();
        places();
        rooms();
        replacedCounts();
        Check.end();
    }

    private static void plainMacros() {
        Check.comesOut("1 + 2 b", "#define a 1+2\na b");
        Check.comesOut("b", "#define a\na b a");
        Check.comesOut("3 3", "#define a b\n#define b 3\na b");
        Check.comesOut("char x", "#define int char\nint x");
        Check.comesOut("# define b 1 b", "#define a # define b 1\na b");
    }

    private static void callMacros() {
        Check.comesOut("< 1 >", "#define f(p) <p>\nf(1)");
        Check.comesOut("< >", "#define f(p) <p>\nf()");
        Check.comesOut("7", "#define f() 7\nf( )");
        Check.comesOut("< 2 + 1 >", "#define f(p,q) <q+p>\nf(1,2)");
        Check.comesOut("< ( 1 , 2 ) >", "#define f(p) <p>\nf((1,2))");
        Check.comesOut("< ( ) ( , ) = 3 >", "#define f(p,q) <p=q>\nf(()(,),3)");
        Check.comesOut("< = >", "#define f(p,q) <p=q>\nf(,)");
        Check.comesOut("f", "#define f(p) <p>\nf");
        Check.comesOut("f ; ( 1 )", "#define f(p) <p>\nf;(1)");
        Check.comesOut("< < 1 > >", "#define f(p) <p>\nf(f(1))");
        Check.comesOut("< f > ( 1 )", "#define f(p) <p>\nf(f)(1)");
        Check.comesOut("< [ 1 ] >", "#define f(p) <p>\n#define g f\n#define h [1]\ng(h)");
        Check.comesOut("1 1 , 2 , 2", "#define f(p,q) p p,q,q\nf(1,2)");
        Check.comesOut("[ , 2 ]", "#define f(p,q,r) [r]\n#define c ,\nf(1,2,c 2)");
        Check.comesOut("< 1 , 2 >", "#define f(p) <p>\n#define c 1,2\nf(c)");
        Check.comesOut("[ 1 2 ]", "#define g(p,q) [p q]\n#define f(p) g(p)\n#define c 1,2\nf(c)");
        Check.comesOut("f ( 1 )", "#define f(p) <p>\n#define o (\nf o 1)");
    }

    private static void callFaults() {
        String head = "#define f(p) <p>\n#define g(p,q)\n#define z() 1\n";
        String[] faults = {"f(", "f((1)", "f(1,2)", "f(,)", "g(1)", "g()", "g(1,2,3)", "z(1)", "z(,)", "z(())",
            "f(f(1)", "f(g(1))", "f(1,2,3,4,5)"};
        for (String text : faults) {
            Check.verdict(PhaseReader.CALL, head + text);
        }
        Check.verdict(PhaseReader.CALL, "#define f(p) <p>\n#define o f(\no");
        Check.comesOut("< 1 >", "#define f(p) <p>\n#define o f(\no 1)");
        Check.verdict(PhaseReader.CALL, "#define f(p) <p>\n#define o f(\nf(o)1)");
        Check.verdict(PhaseReader.CALL, "#define f(p)\nf(" + ";".repeat(41));
        Check.verdict(PhaseReader.CALL, "#define f(p)\nf(1," + ";".repeat(41) + ")");
    }

    private static void hideSets() {
        Check.comesOut("a", "#define a a\na");
        Check.comesOut("a b", "#define a a b\na");
        Check.comesOut("a", "#define a b\n#define b a\na");
        Check.comesOut("b", "#define a b\n#define b a\nb");
        Check.comesOut("f ( 1 )", "#define f(p) f(p)\nf(1)");
        Check.comesOut("f ( f ( 1 ) )", "#define f(p) f(p)\nf(f(1))");
        Check.comesOut("2 * 9 * g", "#define f(a) a*g\n#define g(a) f(a)\nf(2)(9)");
        Check.comesOut("f ( 1 )", "#define f(p) p g\n#define g f\nf()(1)");
        Check.comesOut("g ( 1 )", "#define f g\n#define g(p) f(p)\nf(1)");
        Check.comesOut("< f > ( 2 )", "#define f(p) <p>\nf(f)(2)");
        Check.comesOut("x + ( x )", "#define x x+y\n#define y (x)\nx");
        Check.comesOut("1 f", "#define e\n#define f() 1 f e\nf()");
        Check.comesOut("1 f ( )", "#define f() 1 f\nf()()");
        Check.comesOut("1 1 h", "#define f() 1 h\n#define h() f\nf()()()");
        Check.comesOut("f", "#define f() h()\n#define h() f\nf()");
        Check.comesOut("z ( a ,", "#define z(p,q) p##q\n#define ab z(a,\nab b)");
        Check.comesOut("z ( b ,", "#define z(p,q) q##p\n#define ab z(b,\nab a)");
        Check.comesOut("ab", "#define z(p,q) p##q\n#define ab z(a,b)\nab");
        Check.comesOut("1", "#define a 1##2\n#undef a\n#define f(p) p\nf(f(1))");
    }

    private static void pasting() {
        Check.comesOut("ab", "#define a a##b\na");
        Check.comesOut("ab12", "#define x a##b##1##2\nx");
        Check.comesOut("x 12 y", "#define z x 1##2 y\nz");
        Check.comesOut("==", "#define z = ## =\nz");
        Check.comesOut("## b", "#define z # ## # b\nz");
        Check.comesOut("a ## b", "#define z(p) a p b\nz(##)");
        Check.comesOut("1 23 4", "#define z(p,q) p##q\nz(1 2,3 4)");
        Check.comesOut("abcdefghi", "#define z(p,q) p##q\nz(abcd,efghi)");
        String[] faults = {"abcde,fghij", "+,+", "1,+", "+,1", "#,=", "=,#", "##,#", "#,##", "##,##", "==,=", "=,==",
            "-,1", "/,/", "/,*", "a,(b)", "(a),b", "<,<", "&,&"};
        for (String arguments : faults) {
            Check.verdict(PhaseReader.PASTE, "#define z(p,q) p##q\nz(" + arguments + ")");
        }
        Check.verdict(PhaseReader.NUMBER, "#define z(p,q) p##q\nz(1,a)");
        Check.comesOut("a1", "#define z(p,q) p##q\nz(a,1)");
        Check.comesOut("7", "#define ab 7\n#define z(p,q) p##q\nz(a,b)");
        Check.comesOut("z", "#define z y##z\n#define yz z\nz");
    }

    private static void argumentsOfPasting() {
        String head = "#define a 5\n#define z(p,q) p##q\n";
        Check.comesOut("a", head.replace("#define a 5\n", "") + "z(a,)");
        Check.comesOut("5", head + "z(a,)");
        Check.comesOut("5", head + "z(,a)");
        Check.comesOut("", head + "z(,)");
        Check.comesOut("aa", head + "z(a,a)");
        Check.comesOut("aa 5", "#define a 5\n#define z(p) p##p p\nz(a)");
        Check.comesOut("x 1", "#define z(p,q) x p##q\nz(,1)");
        Check.comesOut("x y", "#define z(p,q) x p##q y\nz(,)");
        Check.comesOut("xy", "#define z(p) x##p##y\nz()");
        Check.comesOut("x1 a2y", "#define z(p) x##p##y\nz(1 a2)");
        Check.comesOut("x 12", "#define z(p,q) x p##1##q\nz(,2)");
        Check.verdict(PhaseReader.PASTE, "#define z(p,q) p##q\nz(z(1,2),3)");
        Check.comesOut("123", "#define z(p,q) y(p,q)\n#define y(p,q) p##q\nz(z(1,2),3)");
    }

    private static void places() {
        Reader reader = Check.with("#define f(p,q) <p p##q\n#define x y z\n\nf(\n1,\n2)\nx\n;");
        reader.translate(0);
        Check.due("words", Check.words(reader), "< 1 12 y z ;");
        Check.due("places", Check.places(reader), "4 5 4 7 7 8");
        reader = Check.with("#include <1>\nf(\nx)", "#define f(p) g(p) p##p\n#define g(q) q+\n#define x 1 x");
        reader.translate(0);
        Check.due("words", Check.words(reader), "1 x + xx");
        Check.due("places", Check.places(reader), "3 3 2 2");
        reader = Check.with("#define z(p,q) p##q\nz(\n,\n3 4)");
        reader.translate(0);
        Check.due("places beside an empty row", Check.places(reader), "4 4");
        reader = Check.with("#define z(p,q) p##q\nz(\n1,\n2\n3\n4)");
        reader.translate(0);
        Check.due("words behind a seam", Check.words(reader), "12 3 4");
        Check.due("places behind a seam", Check.places(reader), "2 5 6");
    }

    private static void rooms() {
        String forty = ";".repeat(40);
        Check.comesOut("", "#define f(p)\nf(" + forty + ")");
        Check.verdict(PhaseReader.ROOM, "#define f(p)\nf(" + forty + ";)");
        Check.verdict(PhaseReader.ROOM, "#define f(p,q)\nf(" + forty + ",)");
        Check.verdict(PhaseReader.SYNTAX, "#define f(p) p\nf(" + forty + ")");
        Check.verdict(PhaseReader.ROOM, "#define f(p) p+\nf(" + forty + ")");
        Check.verdict(PhaseReader.PASTE, "#define f(p) p p p ( ## )\nf(" + forty + ")");
        String eleven = "#define a 1 2 3 4 5 6 7 8 9 1 1\n";
        Check.comesOut("", eleven + "#define f(p)\nf(a a a)");
        Check.verdict(PhaseReader.ROOM, eleven + "#define f(p)\nf(a a a a)");
        Check.comesOut("", eleven + "#define f(p,q)\nf(a a a,a a a)");
        Check.verdict(PhaseReader.ROOM, eleven + "#define f(p,q)\n#define g()\nf(a a a a,g(1))");
        Check.verdict(PhaseReader.CALL, eleven + "#define f(p,q)\n#define g()\nf(a a a a g(1),)");
        Check.comesOut(("1 2 3 4 5 6 7 8 9 1 1 ".repeat(9)).trim(), eleven + "a a a a a a a a a");
        Check.verdict(PhaseReader.ROOM, eleven + "a a a a a a a a a a");
    }

    private static void replacedCounts() {
        replaced(0, 0, "#define a b\n");
        replaced(11, 3, "#define a b\na a b a");
        replaced(11, 1, "#define a a\na");
        replaced(11, 3, "#define f(p)\nf(f(f()))1");
        replaced(11, 3, "#define f(p) p\nf(f(1)f(2))");
        replaced(8, 1, "#define f(p) p\nf(f(1,2))");
        replaced(8, 0, "#define f(p) p\nf(");
        replaced(7, 0, "#define f(p) p\nf(" + ";".repeat(41) + ")");
        replaced(9, 4, "#define z(a,b) a##b\nint c=z(=,=)1;\nint d[z(1,2)]=z(z(1,2),3);");
        replaced(0, 30, "#define a\n" + "a ".repeat(30));
        replaced(7, 30, "#define a\n" + "a ".repeat(31));
        replaced(8, 30, "#define a\n#define f()\n" + "a ".repeat(30) + "f(");
        replaced(7, 30, "#define a\n#define f()\n" + "a ".repeat(30) + "f()");
        String deep = "#define f(p) p\n#define a f(f(f(b)))\n#define b f(f(f(c)))\n#define c f(f(f(d)))\n"
            + "#define d f(f(f(e)))\n#define e f(f(f(g)))\n#define g f(f(f()))\n";
        replaced(0, 30, "#include <1>\n" + "f(".repeat(6) + "a" + ")".repeat(6), deep);
        replaced(7, 30, "#include <1>\n" + "f(".repeat(7) + "a" + ")".repeat(7), deep);
        replaced(3, 1, "#define a\na\n#foo\na");
        replaced(2, 0, "#define a\na\n$");
        replaced(2, 1, "#define a\na\n#include <1>\n", "$");
        Reader reader = Check.with("#define a\na a", ";");
        reader.translate(0);
        Check.due("replaced", reader.replaced(), 2);
        reader.translate(1);
        Check.due("replaced in the next translation", reader.replaced(), 0);
    }

    private static void replaced(int verdict, int want, String... files) {
        Reader reader = Check.with(files);
        Check.due("translate of " + String.join(" | ", files), reader.translate(0), verdict);
        Check.due("replaced of " + String.join(" | ", files), reader.replaced(), want);
    }
}
