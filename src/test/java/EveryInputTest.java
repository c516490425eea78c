import java.util.Random;

/** No call throws or fails to end, whatever is in the files, and an old object answers as a new one. */
public final class EveryInputTest {
    private static final String[] PIECES = {"int ", "char ", "typedef ", "return ", "T", "f", "x", "1", "22", "(", ")",
        "(", ")", "[", "]", "{", "}", ";", ";", ",", "=", "==", "+", "-", "*", "/", "&", "<", ">", "#", "##", " ", "\n",
        "\n", "\n#define f(p) ", "\n#define x ", "\n#define T(p,q,r) ", "\n#define g() ", "p", "q##p", "f(", "g(", "T(",
        "\n#undef x\n", "\n#ifdef x\n", "\n#ifndef f\n", "\n#else\n", "\n#endif\n", "\n#include <1>\n", "\n#include <2>\n",
        "/*", "*/", "//", "\\\n", "??=", "??/", "??(", "??)", "??<", "??>", "??", "$", "abcdefghij", "f(x)", "f(f(", "))"};

    public static void main(String[] args) {
        Random random = new Random(20261115);
        PhaseReader old = new PhaseReader();
        for (int turn = 0; turn < 6000; turn++) {
            String[] files = {text(random), text(random), text(random)};
            int file = random.nextInt(3);
            PhaseReader reader = Check.with(files);
            for (int k = 0; k < 3; k++) {
                Check.put(old, k, files[k]);
            }
            String wanted = outcome(reader, file);
            Check.due("an old object with " + String.join(" | ", files), outcome(old, file), wanted);
        }
        Check.end();
    }

    private static String text(Random random) {
        StringBuilder text = new StringBuilder();
        int pieces = random.nextInt(60);
        int kinds = random.nextInt(4) == 0 ? PIECES.length : 50;
        for (int k = 0; k < pieces; k++) {
            String piece = PIECES[random.nextInt(kinds)];
            if (text.length() + piece.length() <= 160) {
                text.append(piece);
            }
        }
        return text.toString();
    }

    private static String outcome(PhaseReader reader, int file) {
        int verdict = reader.translate(file);
        Check.due("a code", verdict >= 0 && verdict <= 11, true);
        Check.due("nodes only when all is right", reader.nodes() > 0, verdict == 0);
        Check.due("limits", reader.tokens() <= 100 && reader.replaced() <= 30 && reader.macros() <= 8, true);
        String tree = verdict == 0 ? Check.tree(reader) : "";
        return verdict + " " + Check.words(reader) + " / " + Check.places(reader) + " / " + reader.replaced() + " "
            + reader.macros() + " / " + tree;
    }
}
