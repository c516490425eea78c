/** What the tests share: files put into a reader, its outcome as one text, and the count of faults. */
final class Check {
    private static int asked = 0;
    private static int wrong = 0;

    private Check() {
    }

    static void due(String what, String got, String want) {
        asked++;
        if (!got.equals(want)) {
            wrong++;
            System.out.println(what + " answered " + got + ", due is " + want);
        }
    }

    static void due(String what, long got, long want) {
        due(what, Long.toString(got), Long.toString(want));
    }

    static void due(String what, boolean got, boolean want) {
        due(what, Boolean.toString(got), Boolean.toString(want));
    }

    /** Ends the test. */
    static void end() {
        System.out.println(asked + " answers looked at, " + wrong + " not as due");
        if (wrong != 0 || asked == 0) {
            System.exit(1);
        }
    }

    /** A new object with these files. */
    static PhaseReader with(String... files) {
        PhaseReader reader = new PhaseReader();
        for (int file = 0; file < files.length; file++) {
            put(reader, file, files[file]);
        }
        return reader;
    }

    /** Puts a text in the place of that of a file, which is chosen then. */
    static void put(PhaseReader reader, int file, String text) {
        due("choose", reader.choose(file), true);
        reader.clear();
        for (char c : text.toCharArray()) {
            due("write into " + text, reader.write(c), true);
        }
    }

    /** The answer of translate for file 0 of a new object with these files. */
    static void verdict(int want, String... files) {
        due("translate of " + String.join(" | ", files), with(files).translate(0), want);
    }

    /** What comes out of file 0, whether or not it can be parsed. */
    static void comesOut(String want, String... files) {
        PhaseReader reader = with(files);
        int verdict = reader.translate(0);
        boolean parsed = verdict == 0 || verdict == PhaseReader.SYNTAX;
        due("tokens of " + String.join(" | ", files), parsed ? words(reader) : "code " + verdict, want);
    }

    /** The tree of a file that is a unit. */
    static void grows(String want, String file) {
        PhaseReader reader = with(file);
        int verdict = reader.translate(0);
        due("tree of " + file, verdict == 0 ? tree(reader) : "code " + verdict, want);
    }

    static String words(PhaseReader reader) {
        StringBuilder words = new StringBuilder();
        for (int k = 0; k < reader.tokens(); k++) {
            words.append(k == 0 ? "" : " ").append(word(reader, k));
        }
        return words.toString();
    }

    static String word(PhaseReader reader, int k) {
        StringBuilder word = new StringBuilder();
        for (int i = 0; i < 20 && reader.spelling(k, i) > 0; i++) {
            word.append((char) reader.spelling(k, i));
        }
        return word.toString();
    }

    static String places(PhaseReader reader) {
        StringBuilder places = new StringBuilder();
        for (int k = 0; k < reader.tokens(); k++) {
            places.append(k == 0 ? "" : " ").append(reader.place(k));
        }
        return places.toString();
    }

    /** Each node as its number:token, with its children in brackets. */
    static String tree(PhaseReader reader) {
        StringBuilder tree = new StringBuilder();
        int end = addNode(reader, 0, tree);
        due("nodes below node 0 of " + tree, reader.nodes(), end);
        return tree.toString();
    }

    private static int addNode(PhaseReader reader, int k, StringBuilder tree) {
        tree.append(reader.node(k, 0)).append(':').append(reader.node(k, 1));
        int next = k + 1;
        for (int child = 0; child < reader.node(k, 2); child++) {
            tree.append(child == 0 ? '[' : ' ');
            next = addNode(reader, next, tree);
        }
        tree.append(reader.node(k, 2) > 0 ? "]" : "");
        return next;
    }
}
