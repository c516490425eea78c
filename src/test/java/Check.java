import java.util.ArrayList;
import java.util.List;

/** What the tests share: files put into a reader, its outcome as one text, and the count of faults. */
final class Check {
    private static final int MOST_SECONDS = 300;
    private static final int MOST_TOLD = 50;

    private static int asked = 0;
    private static int wrong = 0;

    static {
        // A call that does not end is a fault too, and must not hold up the other tests.
        Thread watch = new Thread(Check::endLate);
        watch.setDaemon(true);
        watch.start();
    }

    private Check() {
    }

    static void due(String what, String got, String want) {
        asked++;
        if (!got.equals(want)) {
            wrong++;
            if (wrong <= MOST_TOLD) {
                System.out.println(what + " answered " + got + ", due is " + want);
            }
        }
    }

    static void due(String what, long got, long want) {
        due(what, Long.toString(got), Long.toString(want));
    }

    static void due(String what, boolean got, boolean want) {
        due(what, Boolean.toString(got), Boolean.toString(want));
    }

    /** Ends the test. */
    static void end() {
        System.out.println(asked + " answers looked at, " + wrong + " not as due");
        if (wrong != 0 || asked == 0) {
            System.exit(1);
        }
    }

    private static void endLate() {
        try {
            Thread.sleep(MOST_SECONDS * 1000L);
        } catch (InterruptedException interrupted) {
            return;
        }
        System.out.println("a call did not end in " + MOST_SECONDS + " seconds");
        Runtime.getRuntime().halt(1);
    }

    /** Numbers outside 0 .. behind - 1: those beside it, and those that a narrower type would wrap into it. */
    static List<Integer> outside(int behind) {
        List<Integer> numbers = new ArrayList<>(List.of(-1, -2, -3, behind, behind + 1, behind + 2,
            Integer.MIN_VALUE, Integer.MIN_VALUE + 1, Integer.MAX_VALUE, Integer.MAX_VALUE - 1));
        for (int bit = 4; bit < 32; bit++) {
            for (int more = -1; more <= 2; more++) {
                int number = (1 << bit) + more;
                if (number < 0 || number >= behind) {
                    numbers.add(number);
                }
            }
        }
        return numbers;
    }

    /** A new object with these files. */
    static Reader with(String... files) {
        Reader reader = new Reader();
        for (int file = 0; file < files.length; file++) {
            put(reader, file, files[file]);
        }
        return reader;
    }

    /** Puts a text in the place of that of a file, which is chosen then. */
    static void put(Reader reader, int file, String text) {
        due("choose", reader.choose(file), true);
        reader.clear();
        add(reader, text);
    }

    /** Puts a text behind that of the chosen file. */
    static void add(Reader reader, String text) {
        for (char c : text.toCharArray()) {
            due("write into " + text, reader.write(c), true);
        }
    }

    /** A new object with these files, of which it has translated file 0. */
    static Reader translated(String... files) {
        Reader reader = with(files);
        reader.translate(0);
        return reader;
    }

    /** The answer of translate for file 0 of a new object with these files. */
    static void verdict(int want, String... files) {
        due("translate of " + name(files), with(files).translate(0), want);
    }

    /** What comes out of file 0, whether or not it can be parsed. */
    static void comesOut(String want, String... files) {
        Reader reader = with(files);
        int verdict = reader.translate(0);
        boolean parsed = verdict == 0 || verdict == PhaseReader.SYNTAX;
        due("tokens of " + name(files), parsed ? words(reader) : "code " + verdict, want);
    }

    /** The places of what comes out of file 0. */
    static void stands(String want, String... files) {
        due("places of " + name(files), places(translated(files)), want);
    }

    /** The answer of translate, and how many tokens came out and were replaced, and how many macros there are. */
    static void counts(int verdict, int tokens, int replaced, int macros, String... files) {
        Reader reader = with(files);
        due("translate of " + name(files), reader.translate(0), verdict);
        due("verdict of " + name(files), reader.verdict(), verdict);
        due("tokens of " + name(files), reader.tokens(), tokens);
        due("replaced of " + name(files), reader.replaced(), replaced);
        due("macros of " + name(files), reader.macros(), macros);
    }

    /** The tree of a file that is a unit. */
    static void grows(String want, String file) {
        Reader reader = with(file);
        int verdict = reader.translate(0);
        due("tree of " + name(file), verdict == 0 ? tree(reader) : "code " + verdict, want);
    }

    /** Looks at all answers before and behind a call that is to change nothing. */
    static void changesNothing(String what, Reader reader, Runnable refused) {
        String before = everything(reader);
        refused.run();
        due("all answers behind " + what, everything(reader), before);
    }

    static String name(String... files) {
        return String.join(" | ", files).replace("\n", "\\n");
    }

    static String words(Reader reader) {
        StringBuilder words = new StringBuilder();
        for (int k = 0; k < reader.tokens(); k++) {
            words.append(k == 0 ? "" : " ").append(word(reader, k));
        }
        return words.toString();
    }

    static String word(Reader reader, int k) {
        StringBuilder word = new StringBuilder();
        int letter = reader.spelling(k, 0);
        for (int i = 1; i < 20 && letter > 0; i++) {
            word.append((char) letter);
            letter = reader.spelling(k, i);
        }
        return word.toString();
    }

    static String places(Reader reader) {
        StringBuilder places = new StringBuilder();
        for (int k = 0; k < reader.tokens(); k++) {
            places.append(k == 0 ? "" : " ").append(reader.place(k));
        }
        return places.toString();
    }

    /** Each node as its number:token, with its children in brackets. */
    static String tree(Reader reader) {
        StringBuilder tree = new StringBuilder();
        int nodes = reader.nodes();
        int end = nodes == 0 ? 0 : addNode(reader, 0, tree);
        due("nodes of the tree " + tree, nodes, end);
        return tree.toString();
    }

    private static int addNode(Reader reader, int k, StringBuilder tree) {
        tree.append(reader.node(k, 0)).append(':').append(reader.node(k, 1));
        int children = reader.node(k, 2);
        int next = k + 1;
        for (int child = 0; child < children; child++) {
            tree.append(child == 0 ? '[' : ' ');
            next = addNode(reader, next, tree);
        }
        tree.append(children > 0 ? "]" : children < 0 ? " with " + children + " children" : "");
        return next;
    }

    /** All that is said of the latest translation. */
    static String outcome(Reader reader) {
        return reader.verdict() + " " + words(reader) + " / " + places(reader) + " / "
            + reader.replaced() + " " + reader.macros() + " / " + tree(reader);
    }

    /** All that can be asked of an object: the outcome, the files and which of them is chosen. */
    static String everything(Reader reader) {
        StringBuilder all = new StringBuilder(outcome(reader));
        addLengths(reader, all);
        Reader chosen = reader.twin();
        chosen.clear();
        addLengths(chosen, all);
        add(chosen, "x+y");
        addLengths(chosen, all);
        for (int file = 0; file < 3; file++) {
            Reader other = reader.twin();
            all.append(" file ").append(file).append(' ').append(other.translate(file));
            all.append(' ').append(outcome(other));
        }
        return all.toString();
    }

    private static void addLengths(Reader reader, StringBuilder all) {
        for (int file = 0; file < 3; file++) {
            all.append(file == 0 ? " lengths " : " ").append(reader.length(file));
        }
    }
}
