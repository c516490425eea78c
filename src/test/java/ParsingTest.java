/** Promises 6, 13 and 14 as far as PARSING and NODES go. */
public final class ParsingTest {
    public static void main(String[] args) {
        beforeTheSyntax();
        declarations();
        declarators();
        definitions();
        statements();
        operators();
        operands();
        casts();
        typeNames();
        noUnits();
        beginningsOfUnits();
        Check.end();
    }

    private static void beforeTheSyntax() {
        String[] numbers = {"1a", "int x=1a;", "int x=0_;", ")(2b", "((((((( 1x"};
        for (String file : numbers) {
            Check.verdict(PhaseReader.NUMBER, file);
        }
        Check.verdict(0, "int x=((((((1))))));");
        Check.verdict(PhaseReader.ROOM, "int x=(((((((1)))))));");
        Check.verdict(PhaseReader.ROOM, "((([[[{");
        Check.verdict(PhaseReader.SYNTAX, ")))((({{{");
        Check.verdict(PhaseReader.SYNTAX, "((([[[}(]");
        Check.verdict(PhaseReader.ROOM, ")}](((((((");
        Check.verdict(PhaseReader.ROOM, "(1[x{;(=[,{#(");
        Check.verdict(0, "int f(){{{{{{;}}}}}}");
        Check.verdict(PhaseReader.ROOM, "int f(){{{{{{{;}}}}}}}");
        Reader reader = Check.with("int x=1a;", "(((((((", "int");
        reader.translate(0);
        Check.due("tokens at NUMBER", Check.words(reader), "int x = 1a ;");
        Check.due("nodes at NUMBER", reader.nodes(), 0);
        reader.translate(1);
        Check.due("tokens at the ROOM of the brackets", reader.tokens(), 7);
        Check.due("nodes at the ROOM of the brackets", reader.nodes(), 0);
        reader.translate(2);
        Check.due("tokens at SYNTAX", reader.tokens(), 1);
        Check.due("nodes at SYNTAX", reader.nodes(), 0);
        Check.due("node at SYNTAX", reader.node(0, 0), -2);
    }

    private static void declarations() {
        Check.grows("0:-1", "");
        Check.grows("0:-1[1:0[3:0 4:1]]", "int x;");
        Check.grows("0:-1[1:0[3:0 4:1] 1:3[3:3 4:4]]", "int x;char y;");
        Check.grows("0:-1[1:0[3:0 4:1 4:3[18:5] 4:8[7:7 17:10]]]", "int x,y=1,*z=x;");
        Check.grows("0:-1[2:0[3:1 4:2]]", "typedef int T;");
        Check.grows("0:-1[2:0[3:1 4:2 4:5[7:4]] 1:7[3:7 4:8]]", "typedef char T,*U;U x;");
        Check.grows("0:-1[1:0[3:0 4:1[6:2 18:5]]]", "int f()=1;");
    }

    private static void declarators() {
        Check.grows("0:-1[1:0[3:0 4:3[7:2 7:1]]]", "int **x;");
        Check.grows("0:-1[1:0[3:0 4:1[5:3 5:6]]]", "int x[1][2];");
        Check.grows("0:-1[1:0[3:0 4:2[6:3 5:6 7:1]]]", "int *x()[3];");
        Check.grows("0:-1[1:0[3:0 4:3[7:2 6:5]]]", "int (*x)();");
        Check.grows("0:-1[1:0[3:0 4:4[7:3 5:7 7:1]]]", "int *(*x)[3];");
        Check.grows("0:-1[1:0[3:0 4:6[5:8 7:5 6:11 7:3 5:15 7:1]]]", "int *(*(*x[1])())[2];");
        Check.grows("0:-1[1:0[3:0 4:3]]", "int ((x));");
        Check.grows("0:-1[1:0[3:0 4:3[5:5]]]", "int ((x[2]));");
    }

    private static void definitions() {
        Check.grows("0:-1[8:0[3:0 4:1[6:2] 9:4]]", "int f(){}");
        Check.grows("0:-1[8:0[3:0 4:2[6:3 7:1] 9:5] 1:7[3:7 4:8]]", "int *f(){}int x;");
        Check.grows("0:-1[8:0[3:0 4:2[6:4] 9:6]]", "int (f)(){}");
        Check.grows("0:-1[8:0[3:0 4:1[6:2 5:5] 9:7]]", "int f()[2]{}");
        Check.grows("0:-1[8:0[3:0 4:4[6:5 7:3 6:8 7:1] 9:10]]", "int *(*f())(){}");
        String[] faults = {"int x{}", "int (*f)(){}", "int f[1](){}", "int *f{}", "int x,f(){}", "typedef int f(){}",
            "int f()=1{}", "int f(){int g(){}}", "int f(){};", "f(){}", "int f(){", "int f()}", "{}"};
        for (String file : faults) {
            Check.verdict(PhaseReader.SYNTAX, file);
        }
    }

    private static void statements() {
        Check.grows(body("10:5"), "int f(){;}");
        Check.grows(body("10:6[17:5]"), "int f(){x;}");
        Check.grows(body("10:6[17:5]"), "int f(){else;}");
        Check.grows(body("11:5"), "int f(){return;}");
        Check.grows(body("11:5[18:6] 10:8"), "int f(){return 1;;}");
        Check.grows(body("9:5 9:7[9:8[10:9]]"), "int f(){{}{{;}}}");
        Check.grows(body("1:5[3:5 4:6[18:8]] 2:10[3:11 4:12] 1:14[3:14 4:15]"), "int f(){int x=1;typedef int T;T y;}");
        String[] faults = {"x", "return", "return return;", "x y;", "int;", "int x", "typedef x;", "x,y;", "int x=1,;",
            "typedef int x=1;", "1 2;", "=;", "{;", "};", "typedef typedef int x;"};
        for (String statement : faults) {
            Check.verdict(PhaseReader.SYNTAX, "int f(){" + statement + "}");
        }
        Check.verdict(PhaseReader.SYNTAX, "x;");
        Check.verdict(PhaseReader.SYNTAX, ";");
        Check.verdict(PhaseReader.SYNTAX, "return;");
    }

    private static void operators() {
        Check.grows(body("10:8[12:6[17:5 17:7]]"), "int f(){a=b;}");
        Check.grows(body("10:10[12:6[17:5 12:8[17:7 17:9]]]"), "int f(){a=b=c;}");
        Check.grows(body("10:10[12:8[12:6[17:5 17:7] 17:9]]"), "int f(){a-b-c;}");
        Check.grows(body("10:10[12:8[12:6[17:5 17:7] 17:9]]"), "int f(){a==b==c;}");
        Check.grows(body("10:10[12:8[12:6[17:5 17:7] 17:9]]"), "int f(){a<b>c;}");
        Check.grows(body("10:10[12:8[12:6[17:5 17:7] 17:9]]"), "int f(){a/b*c;}");
        Check.grows(body("10:10[12:6[17:5 12:8[17:7 17:9]]]"), "int f(){a+b*c;}");
        Check.grows(body("10:10[12:6[17:5 12:8[17:7 17:9]]]"), "int f(){a<b+c;}");
        Check.grows(body("10:10[12:6[17:5 12:8[17:7 17:9]]]"), "int f(){a==b<c;}");
        Check.grows(body("10:10[12:6[17:5 12:8[17:7 17:9]]]"), "int f(){a=b==c;}");
        Check.grows(body("10:10[12:8[12:6[17:5 17:7] 17:9]]"), "int f(){a==b=c;}");
        Check.grows(body("10:14[12:6[17:5 12:10[12:8[17:7 17:9] 12:12[17:11 17:13]]]]"), "int f(){a=b+c<d*e;}");
        Check.grows(body("10:12[12:10[12:7[17:6 17:8] 17:11]]"), "int f(){(a+b)*c;}");
        Check.grows(body("10:12[12:10[12:7[17:6 17:8] 17:11]]"), "int f(){(a=b)=c;}");
        Check.grows(body("10:12[12:6[17:5 12:9[17:8 17:10]]]"), "int f(){a-(b-c);}");
    }

    private static void operands() {
        Check.grows(body("10:9[13:5[13:6[13:7[17:8]]]]"), "int f(){-*&a;}");
        Check.grows(body("10:9[12:6[17:5 13:7[17:8]]]"), "int f(){a--b;}");
        Check.grows(body("10:9[12:6[17:5 13:7[17:8]]]"), "int f(){a**b;}");
        Check.grows(body("10:10[13:5[15:7[17:6 18:8]]]"), "int f(){*a[1];}");
        Check.grows(body("10:12[15:9[13:6[17:7] 18:10]]"), "int f(){(*a)[1];}");
        Check.grows(body("10:8[16:6[17:5]]"), "int f(){a();}");
        Check.grows(body("10:13[16:6[17:5 17:7 12:10[17:9 18:11]]]"), "int f(){a(b,c=1);}");
        Check.grows(body("10:13[15:10[16:8[16:6[17:5]] 18:11]]"), "int f(){a()()[1];}");
        Check.grows(body("10:9[16:6[18:5 18:7]]"), "int f(){1(2);}");
        Check.grows(body("10:12[15:6[17:5 15:8[17:7 18:9]]]"), "int f(){a[b[1]];}");
        String[] faults = {"a[]", "a[1", "a(1", "a(,)", "a(1,)", "()", "-", "a+", "+a", "a b", "(a", "a)", "a[1,2]",
            "/a", "a==", "==a", "a<=b", "#", "a##b", "(a,b)", "int", "a(int)", "return"};
        for (String e : faults) {
            Check.verdict(PhaseReader.SYNTAX, "int f(){1+" + e + ";}");
        }
    }

    private static void casts() {
        Check.grows(body("10:9[14:5[3:6 17:8]]"), "int f(){(int)a;}");
        Check.grows(body("10:11[14:5[3:6 7:7 7:8 17:10]]"), "int f(){(char**)a;}");
        Check.grows(body("10:15[12:13[14:5[3:6 13:8[15:10[17:9 18:11]]] 17:14]]"), "int f(){(int)-a[1]+b;}");
        Check.grows(body("10:12[14:5[3:6 14:8[3:9 17:11]]]"), "int f(){(int)(int)a;}");
        Check.grows(body("10:11[14:5[3:6 17:9]]"), "int f(){(int)(a);}");
        String[] faults = {"(int)", "(int", "(int a)b", "(*int)a", "(int*", "(int[1])a", "(typedef)a", "(int)=a",
            "((int))a"};
        for (String e : faults) {
            Check.verdict(PhaseReader.SYNTAX, "int f(){" + e + ";}");
        }
    }

    private static void typeNames() {
        String head = "typedef int T;";
        Check.grows("0:-1[2:0[3:1 4:2] 1:4[3:4 4:5]]", head + "T x;");
        Check.grows("0:-1[2:0[3:1 4:2] 8:4[3:4 4:5[6:6] 9:8[1:9[3:9 4:11[7:10]]]]]", head + "int f(){T*x;}");
        Check.grows("0:-1[8:0[3:0 4:1[6:2] 9:4[10:8[12:6[17:5 17:7]]]]]", "int f(){T*x;}");
        Check.grows("0:-1[2:0[3:1 4:2] 8:4[3:4 4:5[6:6] 9:8[1:9[3:9 4:11]]]]", head + "int f(){T(x);}");
        Check.grows("0:-1[2:0[3:1 4:2] 1:4[3:4 4:5[14:7[3:8 17:10]]]]", head + "int y=(T)z;");
        Check.grows("0:-1[2:0[3:1 4:2] 1:4[3:4 4:5[14:7[3:8 13:10[17:11]]]]]", head + "int y=(T)-z;");
        Check.grows("0:-1[1:0[3:0 4:1[12:6[17:4 17:7]]]]", "int y=(T)-z;");
        String[] units = {"T T;", "int T;int x=T;", "int T,x=T;", "int T=T;", "int (T);", "typedef T T;T x;",
            "typedef char T;T x;", "T f(){T T=T;T;}", "int f(){{int T;T=1;}T x;}",
            "int f(){int T;{typedef char T;T x;}T=1;}", "int f(){int T;typedef int T;T x;}", "int T(){return T();}",
            "int f(){int x=(T)1,T=(T);}", "int f(){T x,T;T;}", "typedef T U;U x;",
            "int f(){typedef T*U;U x;return (U)x;}", "T*x,T;int y=T;", "int f(){int T;}T x;", "T(f)(){return(T)f;}",
            "typedef T*(*P)();P p;"};
        for (String unit : units) {
            Check.verdict(0, head + unit);
        }
        String[] faults = {"int x=T;", "int T;T x;", "int f(){int T;T x;}", "int f(){T;}", "int f(){T=1;}",
            "int T(){T x;}", "int f(){int T=(T)1;}", "int f(){return T;}", "int f(){return T(x);}",
            "int f(){{typedef int U;}U x;}", "int f(){typedef int U;}U x;", "U x;typedef int U;", "int f(){(T);}",
            "int f(){x(T);}", "int f(){x=(T+1);}", "int T,x=(T)1;", "typedef int T int;", "T;", "T T x;", "int x[T];",
            "int f(){T x,T,y=(T)1;}"};
        for (String unit : faults) {
            Check.verdict(PhaseReader.SYNTAX, head + unit);
        }
    }

    private static void noUnits() {
        String[] faults = {"x", "int", "int x", "int x,", "int x,;", "int =1;", "int x=;", "int x=1", "int 1;",
            "int *;", "int ();", "int (x;", "int x[];", "int x[y];", "int x[1;", "int x(1);", "int x(y);", "int int;",
            "int return;", "int char x;", "typedef;", "typedef int;", "typedef x y;", "typedef int x", "int x[1+1];",
            "int x=1 y;", "int x==1;", "int (x)y;", "int x]", "##", ")", "int (*)();", "int &x;", "int x=1;}",
            "int x*;", "int f(;", "int x=f(;", "int x=f(1,;", "int x=f(1;", "int x=(int;", "int x[;"};
        for (String file : faults) {
            Check.verdict(PhaseReader.SYNTAX, file);
        }
    }

    /** Only the beginnings that end with an item of the unit are units themselves. */
    private static void beginningsOfUnits() {
        String[] items = {"typedef int T , * U ; ", "int * ( * f ) ( ) = ( T * ) & g [ 1 ] ( 2 , - x ) , y [ 3 ] ; ",
            "T h ( ) { T a = b ; { ; return a + 1 ; } return ; c ( ) ; } ", "char z ; "};
        String file = String.join("", items);
        for (int end = 0; end < file.length(); end++) {
            if (end == 0 || file.charAt(end - 1) == ' ') {
                String beginning = file.substring(0, end);
                boolean whole = beginning.isEmpty();
                for (int k = 1; k <= items.length; k++) {
                    whole |= beginning.equals(String.join("", java.util.Arrays.copyOf(items, k)));
                }
                Check.verdict(whole ? 0 : PhaseReader.SYNTAX, beginning);
            }
        }
        Check.verdict(0, file);
    }

    /** The tree of int f() with a block of these items. */
    private static String body(String items) {
        return "0:-1[8:0[3:0 4:1[6:2] 9:4[" + items + "]]]";
    }
}
