/**
 * Promises 6 to 14, for files made by chance: the class answers as the model does, whatever the
 * object translated before, and no call throws or fails to end.
 */
public final class ModelTest {
    private static final int SCENES = 12000;
    /** So many calls of an object may go into what it translated before, and so many into the rest. */
    private static final int MOST_BEFORE = 60;
    private static final int MOST_EACH = 160;

    public static void main(String[] args) {
        Texts texts = new Texts(args.length > 0 ? Long.parseLong(args[0]) : 20261115);
        int scenes = args.length > 1 ? Integer.parseInt(args[1]) : SCENES;
        for (int scene = 0; scene < scenes; scene++) {
            Reader reader = new Reader();
            if (scene % 2 == 0) {
                Check.put(reader, Math.floorMod(scene, 3), texts.text(MOST_BEFORE));
                reader.translate(Math.floorMod(scene, 3));
            }
            int left = scene % 2 == 0 ? MOST_EACH * 2 + 60 : MOST_EACH * 3;
            String[] files = {"", "", ""};
            for (int file = 0; file < 3; file++) {
                files[file] = texts.text(Math.min(left, MOST_EACH));
                left -= files[file].length();
                Check.put(reader, file, files[file]);
            }
            int file = texts.below(3);
            String want = new Model(files).outcome(file);
            int verdict = reader.translate(file);
            Check.due("file " + file + " of " + Check.name(files), Check.outcome(reader), want);
            Check.due("translate of " + Check.name(files), verdict, reader.verdict());
        }
        Check.end();
    }
}
