import java.io.IOException;
import java.nio.file.Files;
import java.nio.file.Path;

/** What the tests share: what is tested now, answers that are not as due, texts, and calls by their names. */
class Check {
    static final int NONE = OneVoice.NONE;
    static final int UNKNOWN = OneVoice.UNKNOWN;
    static final int OUTSIDE = OneVoice.OUTSIDE;
    static final int NOT = OneVoice.NOT;
    static final int FULL = OneVoice.FULL;
    static final int MIN = Integer.MIN_VALUE;
    static final int MAX = Integer.MAX_VALUE;

    private static int wrong = 0;
    private static String subject = "";
    private static String document = null;

    /** Tells what the next answers belong to. */
    static void about(String what) {
        subject = what;
    }

    /** The next answers hold to this sentence; it must stand in the document, so that no test outlives it. */
    static void sentence(String words) {
        about('"' + words + '"');
        if (!document().isEmpty() && !document().contains(words)) {
            fail("the document does not say so");
        }
    }

    private static String document() {
        if (document == null) {
            Path path = Path.of(System.getProperty("onevoice.document", "../shared/DOC.md"));
            try {
                document = Files.exists(path) ? Files.readString(path).replaceAll("\\s+", " ") : "";
            } catch (IOException e) {
                document = "";
            }
        }
        return document;
    }

    static void fail(String what) {
        wrong++;
        System.out.println(subject + ": " + what);
    }

    static void due(String call, long got, long want) {
        if (got != want) {
            fail(call + " answered " + got + ", due is " + want);
        }
    }

    /** Ends the test: with exit code 1, if an answer was not as due. */
    static void end() {
        System.out.println(wrong == 0 ? "all answers are as due" : wrong + " answers are not as due");
        if (wrong != 0) {
            System.exit(1);
        }
    }

    /** Writes a text, eight bytes at a time. */
    static void put(OneVoice x, String text) {
        for (int i = 0; i < text.length(); i += 8) {
            int n = Math.min(8, text.length() - i);
            x.write(packed(text.substring(i, i + n)), n);
        }
    }

    /** Up to eight signs as the bytes of a long. */
    static long packed(String signs) {
        long bytes = 0;
        for (int i = 0; i < signs.length(); i++) {
            bytes |= (long) (signs.charAt(i) & 255) << (8 * i);
        }
        return bytes;
    }

    static int tell(OneVoice x, String text) {
        put(x, text);
        return x.told();
    }

    static void faultAt(String text, int place) {
        OneVoice x = new OneVoice();
        put(x, text);
        due("fault() of \"" + text + '"', x.fault(), place);
    }

    /** Sounds as the document writes them, a .. p, packed as calls want them. */
    static long sounds(String letters) {
        long made = 0;
        for (int i = 0; i < letters.length(); i++) {
            made |= (long) (letters.charAt(i) - 'a') << (4 * i);
        }
        return made;
    }

    /** A piece told by letters: its number. */
    static int piece(OneVoice x, String letters, int begin, int end, int voice) {
        return x.piece((int) sounds(letters), letters.length(), begin, end, voice);
    }

    static int said(OneVoice x, String letters, int what) {
        return x.said(0, sounds(letters), letters.length(), what);
    }

    static int bit(OneVoice x, String letters, int i) {
        return x.bit(0, sounds(letters), letters.length(), i);
    }

    /** A call by its name. */
    static int ask(OneVoice x, String name, long... a) {
        int[] i = new int[a.length];
        for (int j = 0; j < a.length; j++) {
            i[j] = (int) a[j];
        }
        return switch (name) {
            case "piece" -> x.piece(i[0], i[1], i[2], i[3], i[4]);
            case "worn" -> x.worn(i[0], i[1]);
            case "of" -> x.of(i[0], i[1], i[2]);
            case "lost" -> x.lost();
            case "said" -> x.said(i[0], a[1], i[2], i[3]);
            case "bit" -> x.bit(i[0], a[1], i[2], i[3]);
            case "write" -> x.write(a[0], i[1]);
            case "erase" -> x.erase();
            case "fault" -> x.fault();
            case "told" -> x.told();
            case "word" -> x.word(i[0], i[1]);
            case "line" -> x.line(i[0], i[1], i[2]);
            case "jar" -> x.jar(i[0], i[1], i[2]);
            case "call" -> x.call(i[0], i[1], i[2], i[3], i[4], i[5] == 1);
            case "run" -> x.run(i[0]);
            case "heard" -> x.heard(i[0], i[1]);
            case "speaks" -> x.speaks(i[0]);
            case "voice" -> x.voice(i[0], i[1]);
            case "wish" -> x.wish(i[0], i[1], i[2]);
            case "change" -> x.change(i[0]);
            case "record" -> x.record();
            case "crowd" -> x.crowd(i[0], i[1]);
            case "understood" -> x.understood(i[0], i[1]);
            case "power" -> x.power(i[0], i[1]);
            case "count" -> x.count(i[0]);
            default -> throw new IllegalArgumentException(name);
        };
    }
}
