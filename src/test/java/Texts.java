import java.util.Random;

/** Makes texts of files by chance, but always the same ones from the same seed. */
final class Texts {
    private static final String[] PIECES = {"int ", "char ", "typedef ", "return ", "T", "f", "x", "1", "22", "(", ")",
        "(", ")", "[", "]", "{", "}", ";", ";", ",", "=", "==", "+", "-", "*", "/", "&", "<", ">", "#", "##", " ", "\n",
        "\n", "\n#define f(p) ", "\n#define x ", "\n#define T(p,q,r) ", "\n#define g() ", "p", "q##p", "f(", "g(", "T(",
        "\n#undef x\n", "\n#ifdef x\n", "\n#ifndef f\n", "\n#else\n", "\n#endif\n", "\n#include <1>\n",
        "\n#include <2>\n", "/*", "*/", "//", "\\\n", "??=", "??/", "??(", "??)", "??<", "??>", "??", "$", "abcdefghij",
        "f(x)", "f(f(", "))"};
    private static final String[] LINES = {"#define A", "#define B 1", "#define A(p) p", "#define B(p,q) q##p",
        "#undef A", "#undef B", "#ifdef A", "#ifdef B", "#ifndef A", "#ifndef B", "#else", "#else", "#endif", "#endif",
        "#endif", "#", "#else x", "#endif x", "#ifdef", "#include <0>", "#include <1>", "#include <2>", "#define",
        "A B", "A(1)", "B(1,2)", "A", "(x)", "x\\", "/*", "*/", "//\\", "??=ifdef A", "??=endif", "#define C(p p"};
    private static final String[] HEADS = {"a ", "b ", "ab ", "f(p) ", "g(p,q) ", "h(p,q,r) ", "k() "};
    private static final String[] WORDS = {"a", "b", "ab", "f", "g", "h", "k", "p", "q", "r", "p", "q", "1", "2", "=",
        "#", "(", ")", ",", "xy", "abcdefgh"};
    private static final String[] USES = {"a", "b", "ab", "1", "2", "=", "#", "##", "xy", "abcde", "", "(", ")", ",",
        "\n", "f"};
    private static final String[] TYPES = {"int", "char", "T", "U", "T", "int"};
    private static final String[] NAMES = {"x", "y", "T", "U", "f"};
    private static final String[] OPERATORS = {"=", "==", "<", ">", "+", "-", "*", "/"};
    private static final String[] BROKEN = {";", ",", "(", ")", "{", "}", "[", "]", "=", "*", "int", "T", "1", "1x",
        "typedef", "return", "#", ""};

    private final Random random;

    Texts(long seed) {
        random = new Random(seed);
    }

    int below(int behind) {
        return random.nextInt(behind);
    }

    private String oneOf(String[] words) {
        return words[below(words.length)];
    }

    /** A text of at most this many characters. */
    String text(int most) {
        String text;
        switch (below(8)) {
            case 0:
                text = pieces();
                break;
            case 1:
                text = lines();
                break;
            case 2:
            case 3:
            case 4:
                text = macros();
                break;
            case 5:
            case 6:
                text = unit();
                break;
            default:
                text = broken(unit());
                break;
        }
        return text.length() <= most ? text : text.substring(0, most);
    }

    private String pieces() {
        StringBuilder text = new StringBuilder();
        int pieces = below(60);
        int kinds = below(4) == 0 ? PIECES.length : 50;
        for (int k = 0; k < pieces; k++) {
            text.append(PIECES[below(kinds)]);
        }
        return text.toString();
    }

    private String lines() {
        StringBuilder text = new StringBuilder();
        int lines = below(22);
        int kinds = below(2) == 0 ? LINES.length : 15;
        for (int k = 0; k < lines; k++) {
            text.append(LINES[below(kinds)]).append('\n');
        }
        return text.toString();
    }

    private String macros() {
        StringBuilder text = new StringBuilder();
        for (String head : HEADS) {
            if (below(5) < 2) {
                text.append("#define ").append(head);
                int words = below(5);
                for (int i = 0; i < words; i++) {
                    text.append(below(4) == 0 ? call(1, WORDS) : oneOf(WORDS));
                    text.append(i + 1 < words && below(3) == 0 ? "##" : " ");
                }
                text.append(below(25) == 0 ? "##\n" : "\n");
            }
        }
        for (int uses = 1 + below(8); uses > 0; uses--) {
            text.append(call(3, USES)).append(below(3) == 0 ? " " : "");
        }
        return text.toString();
    }

    /** A call, most often with as many arguments as the macro has parameters. */
    private String call(int depth, String[] words) {
        int parameters = below(4);
        if (depth == 0 || below(4) == 0) {
            return oneOf(words);
        }
        StringBuilder text = new StringBuilder().append("kfgh".charAt(parameters)).append('(');
        int arguments = below(30) == 0 ? below(4) : parameters;
        for (int k = 0; k < arguments; k++) {
            text.append(k == 0 ? "" : ",").append(call(depth - 1, words));
            text.append(below(3) == 0 ? " " + call(depth - 1, words) : "");
        }
        return text.append(below(30) == 0 ? "" : ")").toString();
    }

    private String unit() {
        StringBuilder text = new StringBuilder(below(2) == 0 ? "typedef int T;" : "");
        int items = 1 + below(3);
        for (int k = 0; k < items; k++) {
            text.append(below(3) == 0 ? oneOf(TYPES) + " " + oneOf(NAMES) + "()" + block(2) : declaration(2));
        }
        return text.toString();
    }

    private String declaration(int depth) {
        boolean isTypedef = below(4) == 0;
        StringBuilder text = new StringBuilder(isTypedef ? "typedef " : "").append(oneOf(TYPES)).append(' ');
        int more = below(3);
        for (int k = 0; k <= more; k++) {
            text.append(k == 0 ? "" : ",").append(declarator(depth));
            text.append(!isTypedef && below(3) == 0 ? "=" + expression(depth) : "");
        }
        return text.append(';').toString();
    }

    private String declarator(int depth) {
        String inner = depth > 0 && below(3) == 0 ? "(" + declarator(depth - 1) + ")" : oneOf(NAMES);
        StringBuilder text = new StringBuilder("*".repeat(below(3))).append(inner);
        for (int more = below(3); more > 0; more--) {
            text.append(below(2) == 0 ? "()" : "[3]");
        }
        return text.toString();
    }

    private String block(int depth) {
        StringBuilder text = new StringBuilder("{");
        for (int items = below(4); items > 0; items--) {
            text.append(depth == 0 ? ";" : item(depth - 1));
        }
        return text.append('}').toString();
    }

    private String item(int depth) {
        switch (below(6)) {
            case 0:
                return block(depth);
            case 1:
                return "return " + (below(3) == 0 ? "" : expression(depth)) + ";";
            case 2:
                return declaration(depth);
            case 3:
                return "T*x;";
            default:
                return expression(depth) + ";";
        }
    }

    private String expression(int depth) {
        StringBuilder text = new StringBuilder(operand(depth));
        for (int more = below(4); more > 0; more--) {
            text.append(oneOf(OPERATORS)).append(operand(depth));
        }
        return text.toString();
    }

    private String operand(int depth) {
        StringBuilder text = new StringBuilder();
        for (int more = below(3) - 1; more > 0; more--) {
            text.append(below(3) == 0 ? "(" + oneOf(TYPES) + "*".repeat(below(2)) + ")"
                : String.valueOf("-*&".charAt(below(3))));
        }
        boolean inside = depth > 0 && below(3) == 0;
        text.append(inside ? "(" + expression(depth - 1) + ")" : below(2) == 0 ? "1" : oneOf(NAMES));
        if (depth > 0 && below(4) == 0) {
            text.append(below(2) == 0 ? "[" + expression(depth - 1) + "]" : "(" + (below(2) == 0 ? ""
                : expression(depth - 1)) + ")");
        }
        return text.toString();
    }

    private String broken(String text) {
        int at = below(text.length());
        return text.substring(0, at) + oneOf(BROKEN) + text.substring(at + below(2));
    }
}
