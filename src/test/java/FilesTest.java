/** Promises 1 to 5: a new object, choose, write, clear, length. */
public final class FilesTest {
    public static void main(String[] args) {
        newObject();
        choosing();
        writing();
        clearing();
        lengths();
        Check.end();
    }

    private static void newObject() {
        Reader reader = new Reader();
        for (int file = 0; file < 3; file++) {
            Check.due("length of a new file", reader.length(file), 0);
        }
        Check.due("verdict of a new object", reader.verdict(), 0);
        Check.due("tokens of a new object", reader.tokens(), 0);
        Check.due("replaced of a new object", reader.replaced(), 0);
        Check.due("macros of a new object", reader.macros(), 0);
        Check.due("tree of a new object", Check.tree(reader), "0:-1");
        Check.due("place in a new object", reader.place(0), -1);
        Check.due("spelling in a new object", reader.spelling(0, 0), -1);
    }

    private static void choosing() {
        Reader reader = new Reader();
        Check.due("write into the first file", reader.write('a'), true);
        Check.due("it is file 0", reader.length(0), 1);
        Check.due("choose 2", reader.choose(2), true);
        int[] none = {-1, 3, 1000, Integer.MIN_VALUE, Integer.MAX_VALUE};
        for (int file : none) {
            Check.due("choose " + file, reader.choose(file), false);
        }
        reader.write('b');
        reader.write('c');
        Check.due("file 2 stayed chosen", reader.length(2), 2);
        Check.due("choose 1", reader.choose(1), true);
        reader.write('d');
        Check.due("file 1 after choose", reader.length(1), 1);
        Check.due("file 0 as before", reader.length(0), 1);
        Check.due("choose 0", reader.choose(0), true);
        reader.write('e');
        Check.due("file 0 chosen again", reader.length(0), 2);
    }

    private static void writing() {
        for (int code = 0; code <= Character.MAX_VALUE; code++) {
            Reader reader = new Reader();
            boolean may = code == 10 || code >= 32 && code <= 126;
            Check.due("write of code " + code, reader.write((char) code), may);
            Check.due("length after code " + code, reader.length(0), may ? 1 : 0);
            code += code > 400 ? 997 : 0;
        }
        Check.due("write of code 65535", new Reader().write((char) 65535), false);
        Reader reader = new Reader();
        for (int i = 0; i < 160; i++) {
            Check.due("write number " + i, reader.write(i % 2 == 0 ? ';' : ' '), true);
        }
        Check.due("write into a full file", reader.write(' '), false);
        Check.due("length of a full file", reader.length(0), 160);
        reader.choose(1);
        Check.due("write into another file", reader.write(' '), true);
        Check.comesOut("a b", "a b");
    }

    private static void clearing() {
        Reader reader = Check.with("int a;", "int b;");
        reader.choose(0);
        reader.clear();
        Check.due("length of the cleared file", reader.length(0), 0);
        Check.due("length of the other file", reader.length(1), 6);
        Check.due("translate of the cleared file", reader.translate(0), 0);
        Check.due("tree of the cleared file", Check.tree(reader), "0:-1");
        reader.clear();
        Check.due("length of a file cleared twice", reader.length(0), 0);
        Check.put(reader, 0, ";".repeat(160));
        reader.clear();
        Check.due("write into a file that was full", reader.write('x'), true);
    }

    private static void lengths() {
        Reader reader = Check.with("ab", "", "??=\n");
        Check.due("length 0", reader.length(0), 2);
        Check.due("length 1", reader.length(1), 0);
        Check.due("length 2, as written", reader.length(2), 4);
        int[] none = {-1, 3, Integer.MIN_VALUE, Integer.MAX_VALUE};
        for (int file : none) {
            Check.due("length " + file, reader.length(file), -1);
        }
        reader.translate(2);
        Check.due("length after translate", reader.length(2), 4);
    }
}
