/** NODES (promises 13 and 14): each number of the list, with its token and its children in order. */
public final class NodesTest {
    public static void main(String[] args) {
        units();
        declarations();
        definitions();
        types();
        declarators();
        formsBehindTheName();
        formsBeforeTheName();
        formsAroundParentheses();
        initializers();
        blocks();
        statements();
        returns();
        binaries();
        prefixes();
        casts();
        indexes();
        calls();
        namesAndNumbers();
        parentheses();
        numbering();
        tokensThatCameOut();
        Check.end();
    }

    /** "0 UNIT (token -1): items." */
    private static void units() {
        Check.grows("0:-1", "");
        Check.grows("0:-1[1:0[3:0 4:1]]", "int x;");
        Check.grows("0:-1[1:0[3:0 4:1] 8:3[3:3 4:4[6:5] 9:7] 2:9[3:10 4:11]]", "int x;int f(){}typedef int T;");
    }

    /** "1 DECLARATION, 2 TYPEDEF .. (its first token): 3 TYPE (its token), then each 4 DECLARATOR (the NAME)". */
    private static void declarations() {
        Check.grows("0:-1[1:0[3:0 4:1 4:3 4:5]]", "char x,y,z;");
        Check.grows("0:-1[2:0[3:1 4:2 4:4 4:6]]", "typedef char x,y,z;");
        Check.grows("0:-1[2:0[3:1 4:2] 1:4[3:4 4:5 4:7]]", "typedef int T;T x,y;");
        Check.grows("0:-1[2:0[3:1 4:2] 2:4[3:5 4:6]]", "typedef int T;typedef T U;");
    }

    /** "8 DEFINITION (its first token): 3 TYPE .., then each 4 DECLARATOR .., then for 8 the block." */
    private static void definitions() {
        Check.grows("0:-1[8:0[3:0 4:1[6:2] 9:4]]", "char f(){}");
        Check.grows("0:-1[8:0[3:0 4:2[6:3 7:1] 9:5[10:6]]]", "char*f(){;}");
        Check.grows("0:-1[1:0[3:0 4:1] 8:3[3:3 4:4[6:5] 9:7]]", "int x;int f(){}");
    }

    /** "3 TYPE (its token)": a keyword or a type name, also in a block and in a cast. */
    private static void types() {
        Check.grows("0:-1[2:0[3:1 4:2] 8:4[3:4 4:5[6:6] 9:8[1:9[3:9 4:10[14:12[3:13 18:15]]]]]]",
            "typedef char T;T f(){T x=(T)1;}");
    }

    /** "4: the forms from the NAME outwards": none for a name alone, however many parentheses stand around it. */
    private static void declarators() {
        Check.grows("0:-1[1:0[3:0 4:1]]", "int x;");
        Check.grows("0:-1[1:0[3:0 4:4]]", "int (((x)));");
        Check.grows("0:-1[1:0[3:0 4:2[7:1]]]", "int *x;");
        Check.grows("0:-1[1:0[3:0 4:1[6:2]]]", "int x();");
        Check.grows("0:-1[1:0[3:0 4:1[5:3]]]", "int x[7];");
    }

    /** "those behind it from the left .. 5 ARRAY (the NUMBER), 6 FUNCTION (its ( )". */
    private static void formsBehindTheName() {
        Check.grows("0:-1[1:0[3:0 4:1[5:3 5:6 5:9]]]", "int x[1][2][3];");
        Check.grows("0:-1[1:0[3:0 4:1[6:2 5:5 6:7]]]", "int x()[1]();");
        Check.grows("0:-1[1:0[3:0 4:1[5:3 6:5 5:8]]]", "int x[1]()[2];");
    }

    /** "then the * before it from the right .. 7 POINTER (its *)". */
    private static void formsBeforeTheName() {
        Check.grows("0:-1[1:0[3:0 4:4[7:3 7:2 7:1]]]", "int ***x;");
        Check.grows("0:-1[1:0[3:0 4:3[5:5 6:7 7:2 7:1]]]", "int **x[1]();");
    }

    /** "then so on around each ( )". */
    private static void formsAroundParentheses() {
        Check.grows("0:-1[1:0[3:0 4:5[7:4 7:3 6:7 7:1]]]", "int *(**x)();");
        Check.grows("0:-1[1:0[3:0 4:6[5:9 5:12 6:14 7:4 5:18 7:2 7:1]]]", "int **(*(x)[1][2]())[3];");
        Check.grows("0:-1[1:0[3:0 4:4[5:6 7:3 6:9 7:1] 4:14[7:13 5:17]]]", "int *(*x[1])(),(*y)[2];");
    }

    /** "then e, if there is one." */
    private static void initializers() {
        Check.grows("0:-1[1:0[3:0 4:1[17:3]]]", "int x=y;");
        Check.grows("0:-1[1:0[3:0 4:2[5:4 7:1 12:8[17:7 18:9]] 4:11 4:13[18:15]]]", "int *x[1]=y+2,z,t=3;");
        Check.grows("0:-1[1:0[3:0 4:1[12:4[17:3 17:5]]]]", "int x=y=z;");
    }

    /** "9 BLOCK (its { ): items." */
    private static void blocks() {
        Check.grows(body(""), "int f(){}");
        Check.grows(body("9:5 9:7"), "int f(){{}{}}");
        Check.grows(body("9:5[9:6[10:7] 10:9]"), "int f(){{{;};}}");
        Check.grows(body("10:5 1:6[3:6 4:7] 11:9 9:11 2:13[3:14 4:15]"), "int f(){;int x;return;{}typedef int y;}");
    }

    /** "10 STATEMENT (its ; ): e, if there is one." */
    private static void statements() {
        Check.grows(body("10:5"), "int f(){;}");
        Check.grows(body("10:6[17:5]"), "int f(){x;}");
        Check.grows(body("10:6[17:5] 10:7 10:11[12:9[17:8 18:10]]"), "int f(){x;;y=1;}");
    }

    /** "11 RETURN (return): e, if there is one." */
    private static void returns() {
        Check.grows(body("11:5"), "int f(){return;}");
        Check.grows(body("11:5[17:6]"), "int f(){return x;}");
        Check.grows(body("11:5[12:7[17:6 18:8]] 11:10"), "int f(){return x-1;return;}");
    }

    /** "12 BINARY (the operator): both sides." */
    private static void binaries() {
        for (String operator : new String[] {"=", "==", "<", ">", "+", "-", "*", "/"}) {
            Check.grows(body("10:8[12:6[17:5 18:7]]"), "int f(){x" + operator + "1;}");
            Check.grows(body("10:8[12:6[18:5 17:7]]"), "int f(){1" + operator + "x;}");
        }
    }

    /** "13 PREFIX (- * &): what it is before." */
    private static void prefixes() {
        for (char operator : "-*&".toCharArray()) {
            Check.grows(body("10:7[13:5[17:6]]"), "int f(){" + operator + "x;}");
            Check.grows(body("10:8[13:5[13:6[17:7]]]"), "int f(){" + operator + operator + "x;}");
            Check.grows(body("10:10[13:5[15:7[17:6 18:8]]]"), "int f(){" + operator + "x[1];}");
            Check.grows(body("10:9[12:7[13:5[17:6] 17:8]]"), "int f(){" + operator + "x*y;}");
            Check.grows(body("10:9[12:6[17:5 13:7[17:8]]]"), "int f(){x*" + operator + "y;}");
        }
    }

    /** "14 CAST (its ( ): TYPE, a POINTER for each * from the left, what it is before." */
    private static void casts() {
        Check.grows(body("10:9[14:5[3:6 17:8]]"), "int f(){(int)x;}");
        Check.grows(body("10:12[14:5[3:6 7:7 7:8 7:9 17:11]]"), "int f(){(int***)x;}");
        Check.grows(body("10:15[14:5[3:6 7:7 14:9[3:10 13:12[13:13[18:14]]]]]"), "int f(){(int*)(char)-&1;}");
        Check.grows(body("10:11[14:5[3:6 16:9[17:8]]]"), "int f(){(int)x();}");
        Check.grows(body("10:11[12:9[14:5[3:6 17:8] 17:10]]"), "int f(){(int)x*y;}");
    }

    /** "15 INDEX (its [ ): both." */
    private static void indexes() {
        Check.grows(body("10:9[15:6[17:5 18:7]]"), "int f(){x[1];}");
        Check.grows(body("10:12[15:9[15:6[17:5 18:7] 17:10]]"), "int f(){x[1][y];}");
        Check.grows(body("10:14[15:6[17:5 12:11[15:8[17:7 18:9] 18:12]]]"), "int f(){x[y[1]=2];}");
    }

    /** "16 CALL (its ( ): what is called, the arguments." */
    private static void calls() {
        Check.grows(body("10:8[16:6[17:5]]"), "int f(){x();}");
        Check.grows(body("10:13[16:6[17:5 18:7 17:9 18:11]]"), "int f(){x(1,y,2);}");
        Check.grows(body("10:14[16:9[16:6[17:5 18:7] 16:11[17:10]]]"), "int f(){x(1)(y());}");
        Check.grows(body("10:12[16:9[15:6[17:5 18:7] 17:10]]"), "int f(){x[1](y);}");
    }

    /** "17 NAME, 18 NUMBER." */
    private static void namesAndNumbers() {
        Check.grows("0:-1[1:0[3:0 4:1[17:3]]]", "int x=abcdefghi;");
        Check.grows("0:-1[1:0[3:0 4:1[18:3]]]", "int x=123456789;");
    }

    /** "Parentheses make no node." */
    private static void parentheses() {
        Check.grows("0:-1[1:0[3:0 4:1[17:6]]]", "int x=(((y)));");
        Check.grows(body("10:12[12:10[12:7[17:6 17:8] 18:11]]"), "int f(){(x+y)/2;}");
        Check.grows(body("11:5[12:8[17:7 18:9]]"), "int f(){return(x=1);}");
    }

    /** "Nodes are numbered from 0, each before its children and these in order with all that is below them." */
    private static void numbering() {
        Reader reader = Check.translated("typedef int T;T*f(){T a[2]=(T*)g(1,x[3])-&y;{;}return a==4;}");
        int[][] nodes = {{0, -1, 2}, {2, 0, 2}, {3, 1, 0}, {4, 2, 0}, {8, 4, 3}, {3, 4, 0}, {4, 6, 2}, {6, 7, 0},
            {7, 5, 0}, {9, 9, 3}, {1, 10, 2}, {3, 10, 0}, {4, 11, 2}, {5, 13, 0}, {12, 29, 2}, {14, 16, 3}, {3, 17, 0},
            {7, 18, 0}, {16, 21, 3}, {17, 20, 0}, {18, 22, 0}, {15, 25, 2}, {17, 24, 0}, {18, 26, 0}, {13, 30, 1},
            {17, 31, 0}, {9, 33, 1}, {10, 34, 0}, {11, 36, 1}, {12, 38, 2}, {17, 37, 0}, {18, 39, 0}};
        Check.due("nodes", reader.nodes(), nodes.length);
        for (int k = 0; k < nodes.length; k++) {
            for (int what = 0; what < 3; what++) {
                Check.due("node(" + k + ", " + what + ")", reader.node(k, what), nodes[k][what]);
            }
        }
    }

    /** Their tokens are those of "what came out", over macros, groups and files. */
    private static void tokensThatCameOut() {
        Check.grows("0:-1[1:0[3:0 4:1[12:4[18:3 18:5]]]]", "#define sum 1+2\nint x=sum;");
        Check.grows("0:-1[1:0[3:0 4:1[5:3]]]", "#define f(p) p[3]\nint f(x);");
        Check.grows("0:-1[1:0[3:0 4:1]]", "#define e\ne e int e x e;");
        Reader reader = Check.translated("int\n#\nx\n#include <1>\n;", "[1]\n#include <2>\n", "=y");
        Check.due("one declaration in three files", Check.tree(reader), "0:-1[1:0[3:0 4:1[5:3 17:6]]]");
        reader = Check.translated("#include <1>\nT x;", "typedef int T;");
        Check.due("a type name of another file", Check.tree(reader), "0:-1[2:0[3:1 4:2] 1:4[3:4 4:5]]");
    }

    /** The tree of int f() with a block of these items. */
    private static String body(String items) {
        return "0:-1[8:0[3:0 4:1[6:2] 9:4" + (items.isEmpty() ? "" : "[" + items + "]") + "]]";
    }
}
