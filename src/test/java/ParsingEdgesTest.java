/** The edges of PARSING and NODES (promises 6, 8, 13 and 14), a sentence of the document a method. */
public final class ParsingEdgesTest {
    private static final String TYPE = "typedef int T;";

    public static void main(String[] args) {
        numbers();
        numbersOfWhatCameOut();
        numberBeforeRoomBeforeSyntax();
        openBrackets();
        closedBrackets();
        keywords();
        typeNames();
        fromTheEndOfTheDeclarator();
        toTheEndOfTheBlock();
        laterOneOfTheSameBlock();
        items();
        declarations();
        firstFormOfDefinitions();
        declarators();
        blocks();
        operators();
        operands();
        castsAndParentheses();
        smallestTrees();
        largestTrees();
        deepestTrees();
        Check.end();
    }

    /** "NUMBER if some NUMBER has a character that is no digit". */
    private static void numbers() {
        for (char c = '0'; c <= 'z'; c++) {
            boolean isDigit = c <= '9';
            boolean isWord = isDigit || c >= 'A' && c <= 'Z' || c == '_' || c >= 'a';
            if (isWord) {
                int code = isDigit ? 0 : PhaseReader.NUMBER;
                Check.verdict(code, "int x=1" + c + ";");
                Check.verdict(code, "int x=12345678" + c + ";");
                Check.verdict(code, "int x=1" + c + "1;");
                Check.verdict(code, "int x[0" + c + "];");
                Check.verdict(0, "int a" + c + ";");
            }
        }
        Check.verdict(0, "int x=0,y=000000000,z=999999999;");
        Check.verdict(PhaseReader.NUMBER, "int x=1,y=2,z=3a;");
        Check.verdict(PhaseReader.NUMBER, "1a");
    }

    /** The same, of "what came out" alone. */
    private static void numbersOfWhatCameOut() {
        Check.verdict(0, "#define a 1x");
        Check.verdict(0, "#define f(p)\nf(1x)");
        Check.verdict(0, "#ifdef A\n1x\n#endif");
        Check.verdict(PhaseReader.NUMBER, "#define a 1x\na");
        Check.verdict(0, "#define z(p,q) p##q\nint z(a,1x);");
        Check.verdict(PhaseReader.NUMBER, "#define z(p,q) p##q\nint z(1,x);");
        Check.counts(PhaseReader.NUMBER, 4, 1, 1, "#define a 1x\n;a;;");
    }

    /** "NUMBER ..; else ROOM ..; else SYNTAX". */
    private static void numberBeforeRoomBeforeSyntax() {
        Check.verdict(PhaseReader.NUMBER, "((((((( 1x");
        Check.verdict(PhaseReader.NUMBER, "1x (((((((");
        Check.verdict(PhaseReader.NUMBER, ") 1x");
        Check.verdict(PhaseReader.ROOM, "((((((( 1");
        Check.verdict(PhaseReader.ROOM, ") = (((((((");
        Check.verdict(PhaseReader.SYNTAX, ") = ((((((");
        Check.verdict(PhaseReader.SYNTAX, ")");
    }

    /** "ROOM if at some token more than 6 brackets are open (each ( [ { opens one". */
    private static void openBrackets() {
        for (String bracket : new String[] {"(", "[", "{", "([", "[{", "{(", "([{", "{[("}) {
            String six = bracket.repeat(6).substring(0, 6);
            String seven = bracket.repeat(7).substring(0, 7);
            Check.counts(PhaseReader.SYNTAX, 5, 0, 0, six.substring(1));
            Check.counts(PhaseReader.SYNTAX, 6, 0, 0, six);
            Check.counts(PhaseReader.ROOM, 7, 0, 0, seven);
            Check.counts(PhaseReader.ROOM, 8, 0, 0, seven + ";");
            Check.counts(PhaseReader.ROOM, 14, 0, 0, seven + ")".repeat(7));
            Check.counts(PhaseReader.SYNTAX, 12, 0, 0, six + ")".repeat(6));
        }
        Check.verdict(0, "int x=((((((1))))));");
        Check.verdict(PhaseReader.ROOM, "int x=(((((((1)))))));");
        Check.verdict(0, "int ((((((x))))));");
        Check.verdict(PhaseReader.ROOM, "int (((((((x)))))));");
        Check.verdict(0, "int f(){{{{{{}}}}}}");
        Check.verdict(PhaseReader.ROOM, "int f(){{{{{{{}}}}}}}");
        Check.verdict(0, "int f(){{((a[(int)1]));}}");
        Check.verdict(PhaseReader.ROOM, "int f(){{{((a[(int)1]));}}}");
        Check.verdict(0, "int x=a(b(c(d(e(f())))));");
        Check.verdict(PhaseReader.ROOM, "int x=a(b(c(d(e(f(g()))))));");
        Check.verdict(0, "int x=a[b[c[d[e[f[1]]]]]];");
        Check.counts(PhaseReader.ROOM, 100, 0, 0, "(".repeat(100));
    }

    /** "each ) ] } closes one if one is open". */
    private static void closedBrackets() {
        for (String close : new String[] {")", "]", "}"}) {
            Check.verdict(PhaseReader.SYNTAX, close + "((((((");
            Check.verdict(PhaseReader.ROOM, close + "(((((((");
            Check.verdict(PhaseReader.ROOM, close.repeat(9) + "[[[[[[[");
            Check.verdict(PhaseReader.SYNTAX, "((((((" + close + "{");
            Check.verdict(PhaseReader.ROOM, "((((((" + close + "{{");
            Check.verdict(PhaseReader.SYNTAX, "((((((" + close.repeat(6) + "{{{{{{");
            Check.verdict(PhaseReader.ROOM, "((((((" + close.repeat(6) + "{{{{{{{");
            Check.verdict(PhaseReader.ROOM, "(" + close.repeat(3) + "[[[[[[[");
            Check.verdict(PhaseReader.ROOM, "(((((((" + close);
        }
        Check.verdict(0, "int x=(1)+(1)+(1)+(1)+(1)+(1)+(1)+(1);");
        Check.verdict(0, "int f(){}int g(){}int h(){}int i(){}");
    }

    /** "Keywords are int, char, typedef, return; they are no NAMEs here." */
    private static void keywords() {
        for (String word : new String[] {"int", "char", "typedef", "return"}) {
            Check.verdict(PhaseReader.SYNTAX, "int " + word + ";");
            Check.verdict(PhaseReader.SYNTAX, "int *" + word + "();");
            Check.verdict(PhaseReader.SYNTAX, "int x=" + word + ";");
            Check.verdict(PhaseReader.SYNTAX, "typedef int " + word + ";");
            for (String name : new String[] {word + "s", "_" + word, word.toUpperCase(), word.substring(1),
                word.substring(0, 2), word + "1"}) {
                Check.verdict(0, "int " + name + "=" + name + ";");
            }
        }
        for (String name : new String[] {"define", "include", "ifdef", "else", "endif", "void", "if", "for"}) {
            Check.verdict(0, "int " + name + "(){return " + name + ";}");
        }
        Check.verdict(0, "int x;char y;typedef int z;");
    }

    /** "A NAME is a TYPE NAME where the innermost declaration that counts there is that of a typedef." */
    private static void typeNames() {
        Check.verdict(PhaseReader.SYNTAX, "T x;");
        Check.verdict(0, TYPE + "T x;");
        Check.verdict(PhaseReader.SYNTAX, "int T;T x;");
        Check.verdict(PhaseReader.SYNTAX, "typedef int U;T x;");
        Check.verdict(0, TYPE + "int f(){int T;{typedef int T;{T x;}}T=1;}T y;");
        Check.verdict(PhaseReader.SYNTAX, TYPE + "int f(){int T;{T x;}}");
        Check.verdict(0, TYPE + "int f(){int T;{T=1;}}");
        Check.verdict(PhaseReader.SYNTAX, "int T;int f(){typedef int T;{T=1;}}");
        Check.verdict(0, "int T;int f(){typedef int T;{T x;}}");
        Check.verdict(0, TYPE + "typedef T U;typedef U V;V x;");
    }

    /** "Declarations count from the end of their declarator on". */
    private static void fromTheEndOfTheDeclarator() {
        Check.verdict(PhaseReader.SYNTAX, "T x;" + TYPE);
        Check.verdict(0, TYPE + "T T;");
        Check.verdict(0, TYPE + "T T=T;");
        Check.verdict(PhaseReader.SYNTAX, TYPE + "T T=(T)1;");
        Check.verdict(0, TYPE + "T x=(T)1,T=x;");
        Check.verdict(PhaseReader.SYNTAX, TYPE + "T T,x=(T)1;");
        Check.verdict(0, TYPE + "T T,x=(T);");
        Check.verdict(0, "typedef int T,U;T x;U y;");
        Check.verdict(0, TYPE + "int f(){T T;T=1;}");
        Check.verdict(PhaseReader.SYNTAX, TYPE + "int f(){T T;T x;}");
        Check.verdict(0, TYPE + "int f(){T(T);T=1;}");
        Check.verdict(0, TYPE + "T T(){return T();}");
        Check.verdict(PhaseReader.SYNTAX, TYPE + "T T(){T x;}");
        Check.verdict(0, "typedef int f();f*g(){f x;}");
    }

    /** "to the end of the innermost block that they are in (those in no block: to the end)". */
    private static void toTheEndOfTheBlock() {
        Check.verdict(0, "int f(){typedef int T;T x;}");
        Check.verdict(PhaseReader.SYNTAX, "int f(){typedef int T;}T x;");
        Check.verdict(PhaseReader.SYNTAX, "int f(){{typedef int T;}T x;}");
        Check.verdict(0, "int f(){typedef int T;{T x;}T y;}");
        Check.verdict(PhaseReader.SYNTAX, "int f(){typedef int T;}int g(){T x;}");
        Check.verdict(0, TYPE + "int f(){}T g(){T x;}T y;");
        Check.verdict(0, TYPE + "int f(){{int T;}T x;}");
        Check.verdict(PhaseReader.SYNTAX, TYPE + "int f(){{int T;}T=1;}");
        Check.verdict(0, TYPE + "int f(){int T;}T x;");
        Check.verdict(0, "int f(){{typedef int T;}{int T;T=1;}T=1;}");
    }

    /** "a later one of the same block counts instead of an earlier one". */
    private static void laterOneOfTheSameBlock() {
        Check.verdict(0, TYPE + "int T;int x=T;");
        Check.verdict(PhaseReader.SYNTAX, TYPE + "int T;T x;");
        Check.verdict(0, "int T;" + TYPE + "T x;");
        Check.verdict(PhaseReader.SYNTAX, "int T;" + TYPE + "int x=T;");
        Check.verdict(0, "int f(){int T;typedef int T;T x;int T;T=1;}");
        Check.verdict(PhaseReader.SYNTAX, "int f(){typedef int T;int T;T x;}");
        Check.verdict(0, TYPE + TYPE + "T x;");
        Check.verdict(0, "int x,x,x;int x;");
    }

    /** "unit: items that are declarations or definitions." */
    private static void items() {
        Check.verdict(0, "");
        Check.verdict(0, "int x;");
        Check.verdict(0, "int f(){}");
        Check.verdict(0, "int x;int f(){}int y;");
        for (String none : new String[] {";", "x;", "1;", "{}", "return;", "x=1;", "f(){}", "x", "*x;", "(x);", "}",
            "int x;;", "int f(){};"}) {
            Check.verdict(PhaseReader.SYNTAX, none);
        }
    }

    /** "declaration: typedef type d {, d} ;   or   type d [= e] {, d [= e]} ;". */
    private static void declarations() {
        for (String type : new String[] {"int", "char", "T"}) {
            for (String right : new String[] {"x;", "x,y;", "x,y,z;", "*x,y[1],z();"}) {
                Check.verdict(0, TYPE + type + " " + right);
                Check.verdict(0, TYPE + "typedef " + type + " " + right);
            }
            for (String right : new String[] {"x=1;", "x=1,y;", "x,y=1;", "x=1,y=2;", "f()=1;", "x=y=1;"}) {
                Check.verdict(0, TYPE + type + " " + right);
                Check.verdict(PhaseReader.SYNTAX, TYPE + "typedef " + type + " " + right);
            }
            for (String wrong : new String[] {"", ";", "x", ",;", "x,;", ",x;", "x y;", "x,,y;", "x=;", "x=1", "x==1;",
                "x=1=;", "=1;", "x=1,;", "x(1);", "int x;", "typedef x;", "x={};", "x,y"}) {
                Check.verdict(PhaseReader.SYNTAX, TYPE + type + " " + wrong);
                Check.verdict(PhaseReader.SYNTAX, TYPE + "typedef " + type + " " + wrong);
            }
        }
        Check.verdict(PhaseReader.SYNTAX, "typedef x;");
        Check.verdict(PhaseReader.SYNTAX, "typedef typedef int x;");
        Check.verdict(PhaseReader.SYNTAX, "int typedef x;");
    }

    /** "definition: type d block, d having FUNCTION as its first form." */
    private static void firstFormOfDefinitions() {
        for (String d : new String[] {"f()", "*f()", "**f()", "(f)()", "(f())", "*(f)()", "(*f())()", "f()[1]", "f()()",
            "(*f())[1]", "(*(f)())()"}) {
            Check.verdict(0, "int " + d + "{}");
            Check.verdict(0, "int " + d + ";");
            Check.verdict(PhaseReader.SYNTAX, "int " + d + "{};");
            Check.verdict(PhaseReader.SYNTAX, "typedef int " + d + "{}");
            Check.verdict(PhaseReader.SYNTAX, "int x," + d + "{}");
            Check.verdict(PhaseReader.SYNTAX, "int " + d + ",x{}");
            Check.verdict(PhaseReader.SYNTAX, "int " + d + "=1{}");
            Check.verdict(PhaseReader.SYNTAX, "int g(){int " + d + "{}}");
        }
        for (String d : new String[] {"f", "*f", "f[1]", "f[1]()", "(*f)()", "*(*f)()", "(*f)[1]", "(f)", "(f[1])()",
            "((*f))()"}) {
            Check.verdict(PhaseReader.SYNTAX, "int " + d + "{}");
        }
    }

    /** "d: {*} (N or "(" d ")") and then any of "[" NUMBER "]" and "(" ")"." */
    private static void declarators() {
        for (String right : new String[] {"x", "*x", "***x", "(x)", "((x))", "*(*(*x))", "x[1]", "x[1][2]", "x()",
            "x()()", "x()[1]()", "(x[1])", "(x)[1]", "*(x)()", "(*x())[1]", "x[0]", "x[999999999]", "T", "(T)",
            "*T[1]"}) {
            Check.verdict(0, TYPE + "int " + right + ";");
        }
        for (String wrong : new String[] {"*", "()", "(x", "x)", "((x)", "(*)", "x[]", "x[y]", "x[1", "x 1]", "x[1,2]",
            "x[-1]", "x[(1)]", "x(", "x(1)", "x(y)", "x(int)", "x(,)", "x[1+1]", "[1]x", "()x", "x*", "(x)*", "(x)y",
            "&x", "-x", "x{}", "1", "(1)", "x[T]"}) {
            Check.verdict(PhaseReader.SYNTAX, TYPE + "int " + wrong + ";");
        }
    }

    /** "block: "{" items "}" .. statement: block, ;   e ;   return ;   return e ;". */
    private static void blocks() {
        for (String right : new String[] {"", ";", ";;", "{}", "{}{}", "{{}}", "x;", "1;", "return;", "return x;",
            "return(x);", "int x;", "T x;", "T x;x;", "x;T y;", "typedef T U;U x;", "return;int x;", "{;}x;", "f();",
            "return return1;"}) {
            Check.verdict(0, TYPE + "int f(){" + right + "}");
        }
        for (String wrong : new String[] {"x", "return", "return x", "return,;", "x,y;", "{", "}", "{;", "T;", "T=1;",
            "return T;", "int;", "return int;", "return {};", "return return;", "else x;;", "x;y", "int f(){}", "#",
            "##;", "x y;", "{};x"}) {
            Check.verdict(PhaseReader.SYNTAX, TYPE + "int f(){" + wrong + "}");
        }
        Check.verdict(PhaseReader.SYNTAX, "int f(){");
        Check.verdict(PhaseReader.SYNTAX, "int f()}");
        Check.verdict(PhaseReader.SYNTAX, "int f(){}}");
    }

    /** "= (weakest, groups to the right), ==, then < >, then + -, then * / (strongest; these group to the left)". */
    private static void operators() {
        String[] operators = {"=", "==", "<", ">", "+", "-", "*", "/"};
        int[] strengths = {0, 1, 2, 2, 3, 3, 4, 4};
        for (int left = 0; left < operators.length; left++) {
            for (int right = 0; right < operators.length; right++) {
                boolean first = strengths[left] > strengths[right] || strengths[left] == strengths[right] && left > 0;
                Check.grows(first ? "0:-1[1:0[3:0 4:1[12:6[12:4[17:3 17:5] 17:7]]]]"
                    : "0:-1[1:0[3:0 4:1[12:4[17:3 12:6[17:5 17:7]]]]]",
                    "int x=a" + operators[left] + "b" + operators[right] + "c;");
            }
        }
        for (String none : new String[] {"&", "[", "(", ",", "#", "##", "{", " ", ")", "=+", "= ="}) {
            Check.verdict(PhaseReader.SYNTAX, "int f(){a" + none + "b;}");
        }
    }

    /** "operand: any of - * & and casts .., then a NAME .., a NUMBER, or "(" e ")", and then any of "[" e "]" and "(" [e {, e}] ")"". */
    private static void operands() {
        for (String right : new String[] {"a", "1", "(a)", "-a", "*a", "&a", "--a", "-*&-a", "a[1]", "a[b=1]", "a()",
            "a(1)", "a(1,2)", "a(1,b=2,c)", "a()()", "a[1]()[2]", "1()", "1[1]", "(a)()", "(a)[1]", "-a()", "((a))",
            "(T)a", "(T*)a", "(T**)-a[1]", "(T)(T)a", "-(T)a", "(T)(a)", "a((T)1)"}) {
            Check.verdict(0, TYPE + "int x=" + right + ";");
        }
        for (String wrong : new String[] {"", "-", "()", "(a", "a)", "a[]", "a[1", "a(1", "a(,)", "a(1,)", "a(,1)",
            "a[1,2]", "(a,b)", "+a", "a+", "/a", "<a", "a b", "1 1", "T", "-T", "(T)", "(T", "(T*", "(T*)", "(*T)a",
            "T(a)", "a(T)", "a[T]", "(T)a b", "(T a)", "(T[1])a", "(T())a", "(T)=a", "((T))a", "a{}", "{1}", "a==",
            "==a", "a&b", "a-+b", "a;b"}) {
            Check.verdict(PhaseReader.SYNTAX, TYPE + "int x=" + wrong + ";");
        }
    }

    /** "A ( before a type is a cast." and "Parentheses make no node." */
    private static void castsAndParentheses() {
        Check.grows("0:-1[1:0[3:0 4:1[12:6[17:4 17:7]]]]", "int x=(T)-a;");
        Check.grows("0:-1[2:0[3:1 4:2] 1:4[3:4 4:5[14:7[3:8 13:10[17:11]]]]]", TYPE + "int x=(T)-a;");
        Check.grows("0:-1[1:0[3:0 4:1[16:6[17:4 17:7]]]]", "int x=(T)(a);");
        Check.grows("0:-1[2:0[3:1 4:2] 1:4[3:4 4:5[14:7[3:8 17:11]]]]", TYPE + "int x=(T)(a);");
        Check.grows("0:-1[1:0[3:0 4:1[17:5]]]", "int x=((a));");
        Check.grows("0:-1[1:0[3:0 4:1[14:3[3:4 7:5 7:6 17:8]]]]", "int x=(char**)a;");
    }

    /** The smallest trees: no item, no form, no e, no statement. */
    private static void smallestTrees() {
        Check.grows("0:-1", "");
        Check.grows("0:-1", "#define a\na a\n");
        Check.grows("0:-1[1:0[3:0 4:1]]", "int x;");
        Check.grows("0:-1[2:0[3:1 4:2]]", "typedef int x;");
        Check.grows("0:-1[8:0[3:0 4:1[6:2] 9:4]]", "int f(){}");
        Check.grows("0:-1[8:0[3:0 4:1[6:2] 9:4[10:5 11:6 9:8]]]", "int f(){;return;{}}");
    }

    /** The fullest list, of 100 tokens, in every shape that a node can take many times. */
    private static void largestTrees() {
        Check.counts(0, 100, 0, 0, "int " + "*".repeat(97) + "x;");
        for (String file : new String[] {
            "int " + "*".repeat(97) + "x;",
            "int x" + ",x".repeat(48) + ";",
            "int x" + "()".repeat(48) + ";",
            "int x" + "[1]".repeat(32) + ";",
            "int x=" + "-".repeat(95) + "1;",
            "int x=" + "*&-".repeat(31) + "1;",
            "int x=1" + "+1".repeat(47) + ";",
            "int x=a" + "=1".repeat(47) + ";",
            "int x=a" + "()".repeat(47) + ";",
            "int x=a" + "[1]".repeat(31) + ";",
            "int x=a(1" + ",1".repeat(46) + ");",
            "int x=(int" + "*".repeat(91) + ")1;",
            "int f(){" + ";".repeat(94) + "}",
            "int f(){" + "{}".repeat(47) + "}"}) {
            Reader reader = Check.translated(file);
            Check.due("tokens of " + file, reader.tokens() > 95, true);
            Check.due("outcome of " + file, Check.outcome(reader), new Model(file, "", "").outcome(0));
            Check.due("verdict of " + file, reader.verdict(), 0);
        }
        Reader reader = Check.translated("int " + "*".repeat(97) + "x;");
        Check.due("nodes", reader.nodes(), 101);
        Check.due("last node", reader.node(100, 0) + " " + reader.node(100, 1) + " " + reader.node(100, 2), "7 1 0");
        Check.due("children of the declarator", reader.node(3, 2), 97);
        Check.due("node behind the last", reader.node(101, 0), -2);
        Check.due("short declarations",
            Check.translated("#define a int x;int x;int x;int x;\na a a a a a a a\nint x;").nodes(), 1 + 33 * 3);
    }

    /** The deepest nesting, of 6 brackets, in every kind of them. */
    private static void deepestTrees() {
        for (String file : new String[] {"int x=((((((1+2)*3)-4)+5)/6)<7);", "int *(*(*(*(*(*(*x)())[1])())[2])())[3];",
            "int f(){{{{{{return 1;}}}}}}", "int f(){{{{{int x=(1);}}}}}", "int x=a(b[c(d[e(f[1])])]);",
            "int f(){{{a((int)(1),b[1]);}}}", "int f(){{{{{typedef int T;T(*x)();}}}}}", "int x=-(-(-(-(-(-(1))))));",
            "int f(){{{{{{;}{;}}{;}}}}}"}) {
            Reader reader = Check.translated(file);
            Check.due("outcome of " + file, Check.outcome(reader), new Model(file, "", "").outcome(0));
            Check.due("verdict of " + file, reader.verdict(), 0);
        }
    }
}
