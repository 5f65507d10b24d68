import java.util.ArrayList;
import java.util.List;
import java.util.function.Supplier;

/**
 * Refused calls, each in several states: it answers as told, the first refusal that fits, and all calls behind it
 * answer as they do on a twin to which it was never made.
 */
public final class RefusedTest extends Check {
    /** A call by its name, and what is due. */
    private record Asked(int due, String name, long... args) {
        String told() {
            StringBuilder made = new StringBuilder(name).append('(');
            for (int i = 0; i < args.length; i++) {
                made.append(i == 0 ? "" : ", ").append(args[i]);
            }
            return made.append(')').toString();
        }
    }

    private static final List<Asked> refused = new ArrayList<>();

    public static void main(String[] args) {
        sentence("Refused, and nothing changes: UNKNOWN (no such PIECE, place, WORD, LINE, PLATFORM, CALL, SPOT), OUTSIDE (another number is not as told), NOT (not now: as told), FULL: the first of these that fits.");
        anywhere();
        whereNothingIs();
        allOn("new", OneVoice::new);
        anywhere();
        whereMuchIs();
        whileSpoken();
        allOn("while calls are spoken", RefusedTest::busy);
        refuse(NOT, "told");
        allOn("with a fault", RefusedTest::faulty);
        anywhere();
        whereMuchIs();
        whereNoRoomIs();
        allOn("full", RefusedTest::full);
        everyEdge();
        end();
    }

    private static void refuse(int due, String name, long... args) {
        refused.add(new Asked(due, name, args));
    }

    /** Every refused call on an object of its own, beside a twin without it; one pair for each way to look at them. */
    private static void allOn(String state, Supplier<OneVoice> made) {
        about("refused, " + state);
        List<List<Asked>> looks = List.of(lookAtPieces(), lookAtTexts(), lookAtPlatforms());
        for (List<Asked> look : looks) {
            List<Integer> twin = new ArrayList<>();
            OneVoice without = made.get();
            look.forEach(one -> twin.add(ask(without, one.name, one.args)));
            for (Asked one : refused) {
                OneVoice with = made.get();
                due(one.told(), ask(with, one.name, one.args), one.due);
                due(one.told() + " again", ask(with, one.name, one.args), one.due);
                for (int i = 0; i < look.size(); i++) {
                    String told = look.get(i).told() + " behind " + one.told();
                    due(told, ask(with, look.get(i).name, look.get(i).args), twin.get(i));
                }
            }
        }
        refused.clear();
    }

    /** Pieces of three voices, worn ones and doubles; every kind of call; wishes, crowds, half a text. */
    private static OneVoice busy() {
        OneVoice x = new OneVoice();
        piece(x, "abc", 10, 30, 0);
        piece(x, "abc", 99, 0, 0);
        piece(x, "c", 20, 20, 0);
        piece(x, "ab", 0, 5, 1);
        x.worn(0, 5);
        x.worn(1, 3);
        x.worn(3, 1);
        tell(x, "word 0 is b;word 1 is bc;word 2 is d;word 28 is bc;line 0 is 1 1 1;line 1 is 2;line 2 is #;line 3 is 9;near 0 1;cut 7");
        x.wish(2, 1, 3);
        x.wish(3, 3, 1);
        x.crowd(4, 9);
        x.crowd(15, 99);
        x.call(0, 0, 0, 0, 90, false);
        x.call(1, 0, 0, 3, 90, true);
        x.call(5, 1, 0, 0, 90, false);
        x.call(0, 0, 0, 0, 2, false);
        x.call(5, 2, 0, 1, 90, false);
        x.call(4, 0, 0, 2, 90, false);
        x.call(4, 2, 0, 6, 90, true);
        x.call(1, 2, 0, 20, 30, false);
        x.run(5);
        put(x, "cut 3;line 4 is 0 ");
        return x;
    }

    private static OneVoice faulty() {
        OneVoice x = busy();
        put(x, "!");
        return x;
    }

    /** No room for a piece, a call, a byte or a tick; the text has no fault. */
    private static OneVoice full() {
        OneVoice x = new OneVoice();
        for (int i = 0; i < 16; i++) {
            x.piece(0x3210 + i, 1 + i % 8, 6 * i, 99 - 6 * i, i % 4);
            x.worn(i, i % 2);
        }
        tell(x, "word 0 is b;word 1 is bc;word 2 is d;word 31 is b;line 0 is 0 1;line 1 is 2;line 2 is #;line 3 is 9;near 0 5");
        for (int i = 0; i < 24; i++) {
            x.call(i % 6, i % 3, i, 90 * (i / 6), 2000 + i, i % 5 == 0);
        }
        for (int i = 0; i < 20; i++) {
            x.run(100);
        }
        put(x, "word 30 is cb;cut 12" + " ".repeat(180));
        return x;
    }

    /** Refused in every state, by the bounds of the document alone. */
    private static void anywhere() {
        int[][] pieces = {{0, 0, 0, 0}, {9, 0, 0, 0}, {MIN, 0, 0, 0}, {1, -1, 0, 0}, {1, 100, 0, 0}, {8, 0, -1, 0},
            {8, 0, 100, 0}, {1, 0, 0, -1}, {1, 0, 0, 4}, {MAX, MAX, MAX, MAX}};
        for (int[] a : pieces) {
            refuse(OUTSIDE, "piece", 0x3210, a[0], a[1], a[2], a[3]);
        }
        int[] noPieces = {-1, 16, MIN, MAX};
        for (int piece : noPieces) {
            refuse(UNKNOWN, "worn", piece, 0);
            refuse(UNKNOWN, "worn", piece, -1);
            refuse(UNKNOWN, "of", piece, 0, 0);
            refuse(UNKNOWN, "of", piece, -1, 3);
        }
        int[][] rows = {{-1, 1, 0}, {4, 1, 0}, {0, 0, 0}, {0, 17, 0}, {0, 1, -2}, {4, 17, -2}};
        for (int[] a : rows) {
            refuse(OUTSIDE, "said", a[0], 1, a[1], a[2]);
            refuse(OUTSIDE, "bit", a[0], 1, a[1], a[2]);
        }
        refuse(OUTSIDE, "said", 0, 1, 1, 2);
        int[] noSizes = {MIN, -1, 0, 9, MAX};
        for (int n : noSizes) {
            refuse(OUTSIDE, "write", packed("cut 1"), n);
        }
        int[] noWords = {-1, 32};
        for (int word : noWords) {
            refuse(UNKNOWN, "word", word, 0);
            refuse(UNKNOWN, "word", word, -2);
        }
        refuse(OUTSIDE, "word", 0, -2);
        refuse(OUTSIDE, "word", 31, MIN);
        int[] noLines = {-1, 7, 8};
        for (int line : noLines) {
            refuse(UNKNOWN, "line", line, 0, -1);
            refuse(UNKNOWN, "line", line, 100, -2);
            refuse(UNKNOWN, "jar", line, 0, 0);
            refuse(UNKNOWN, "jar", line, -1, 4);
            refuse(UNKNOWN, "call", 0, line, 0, 0, 1, 0);
            refuse(UNKNOWN, "call", 0, line, 100, 0, 0, 1);
        }
        anywhereAtPlatforms();
        anywhereLoud();
    }

    private static void anywhereAtPlatforms() {
        int[] noPlatforms = {-1, 6, MIN, MAX};
        for (int platform : noPlatforms) {
            refuse(UNKNOWN, "call", platform, 0, 0, 0, 1, 1);
            refuse(UNKNOWN, "call", platform, 0, 0, 9, 9, 0);
            refuse(UNKNOWN, "speaks", platform);
            refuse(UNKNOWN, "voice", platform, 0);
            refuse(UNKNOWN, "voice", platform, 2);
            refuse(UNKNOWN, "wish", platform, 1, 5);
            refuse(UNKNOWN, "wish", platform, 4, 6);
        }
        int[] noTicks = {MIN, -1, 0, 101, MAX};
        for (int n : noTicks) {
            refuse(OUTSIDE, "run", n);
        }
        int[] noCalls = {-1, 24, MIN, MAX};
        for (int call : noCalls) {
            refuse(UNKNOWN, "heard", call, 0);
            refuse(UNKNOWN, "heard", call, 3);
        }
        refuse(OUTSIDE, "voice", 0, -1);
        refuse(OUTSIDE, "voice", 5, 2);
        int[][] wishes = {{-1, 1}, {4, 1}, {3, 0}, {3, 6}, {3, -1}, {4, 6}};
        for (int[] a : wishes) {
            refuse(OUTSIDE, "wish", 2, a[0], a[1]);
            refuse(OUTSIDE, "wish", 0, a[0], a[1]);
        }
        refuse(OUTSIDE, "change", -1);
        refuse(OUTSIDE, "change", 4);
        refuse(OUTSIDE, "count", -1);
        refuse(OUTSIDE, "count", 7);
    }

    private static void anywhereLoud() {
        int[] noSpots = {-2, 16, MIN, MAX};
        for (int spot : noSpots) {
            refuse(UNKNOWN, "crowd", spot, 7);
            refuse(UNKNOWN, "crowd", spot, 100);
            refuse(UNKNOWN, "understood", spot, 7);
            refuse(UNKNOWN, "understood", spot, 1000);
            refuse(UNKNOWN, "power", spot, 7);
            refuse(UNKNOWN, "power", spot, 65536);
        }
        refuse(UNKNOWN, "crowd", -1, 7);
        refuse(UNKNOWN, "understood", -1, 7);
        int[][] numbers = {{-1, -1, -1}, {100, 1000, 65536}, {MIN, MIN, MIN}, {MAX, MAX, MAX}};
        for (int[] a : numbers) {
            refuse(OUTSIDE, "crowd", 4, a[0]);
            refuse(OUTSIDE, "understood", 4, a[1]);
            refuse(OUTSIDE, "power", 4, a[2]);
            refuse(OUTSIDE, "power", NONE, a[2]);
        }
    }

    /** Refused in a new object: no piece, line, call or text is there. */
    private static void whereNothingIs() {
        refuse(UNKNOWN, "worn", 0, 0);
        refuse(UNKNOWN, "of", 0, 0, 0);
        refuse(UNKNOWN, "line", 0, 0, -1);
        refuse(UNKNOWN, "jar", 0, 0, 0);
        refuse(UNKNOWN, "call", 0, 0, 0, 0, 1, 0);
        refuse(UNKNOWN, "heard", 0, 0);
        refuse(NOT, "told");
    }

    /** Refused where piece 2 has 1 or 3 sounds, lines 0 .. 2 can be spoken, and line 3 cannot. */
    private static void whereMuchIs() {
        refuse(OUTSIDE, "worn", 2, 8);
        refuse(OUTSIDE, "worn", 2, -1);
        refuse(OUTSIDE, "worn", 0, 256);
        refuse(UNKNOWN, "of", 2, 3, 0);
        refuse(UNKNOWN, "of", 2, 8, 3);
        refuse(OUTSIDE, "of", 2, 0, 3);
        refuse(OUTSIDE, "of", 2, 0, -1);
        int[][] lines = {{-1, -1}, {100, -1}, {0, -2}, {MAX, MIN}};
        for (int[] a : lines) {
            refuse(OUTSIDE, "line", 0, a[0], a[1]);
            refuse(OUTSIDE, "line", 3, a[0], a[1]);
        }
        refuse(NOT, "line", 3, 0, -1);
        refuse(NOT, "line", 3, 99, MAX);
        refuse(NOT, "line", 2, 99, -1);
        int[][] jars = {{-1, 0}, {100, 0}, {0, -1}, {0, 4}};
        for (int[] a : jars) {
            refuse(OUTSIDE, "jar", 0, a[0], a[1]);
            refuse(OUTSIDE, "jar", 3, a[0], a[1]);
        }
        refuse(NOT, "jar", 3, 0, 0);
        refuse(NOT, "jar", 2, 99, 3);
        int[][] calls = {{-1, 0, 1}, {100, 0, 1}, {0, -1, 1}, {0, 2001, 3000}, {0, 7, 7}, {0, 7, 6}, {0, 7, 3001},
            {0, MAX, MIN}, {0, 0, MAX}};
        for (int[] a : calls) {
            refuse(OUTSIDE, "call", 5, 0, a[0], a[1], a[2], 0);
            refuse(OUTSIDE, "call", 1, 0, a[0], a[1], a[2], 1);
        }
        refuse(OUTSIDE, "heard", 0, -1);
        refuse(OUTSIDE, "heard", 0, 3);
    }

    /** Refused behind four pieces, eight calls and line 3. */
    private static void whileSpoken() {
        refuse(UNKNOWN, "worn", 4, 0);
        refuse(UNKNOWN, "of", 4, 0, 0);
        refuse(UNKNOWN, "heard", 8, 0);
        refuse(UNKNOWN, "line", 4, 0, -1);
        refuse(UNKNOWN, "call", 0, 4, 0, 0, 1, 1);
    }

    private static void whereNoRoomIs() {
        refuse(FULL, "piece", 0x3210, 1, 0, 0, 0);
        refuse(FULL, "piece", 0, 8, 99, 99, 3);
        for (int n = 1; n <= 8; n++) {
            refuse(FULL, "write", packed("cut 1;;;"), n);
        }
        refuse(FULL, "call", 0, 0, 0, 0, 1, 0);
        refuse(FULL, "call", 5, 3, 99, 2000, 3000, 1);
        refuse(OUTSIDE, "run", 1);
        refuse(OUTSIDE, "run", 100);
    }

    private static void look(List<Asked> all, String name, long... args) {
        all.add(new Asked(0, name, args));
    }

    private static void lookAtCounts(List<Asked> all) {
        for (int what = 0; what < 7; what++) {
            look(all, "count", what);
        }
    }

    private static List<Asked> lookAtPieces() {
        List<Asked> all = new ArrayList<>();
        lookAtCounts(all);
        look(all, "lost");
        for (int piece = 0; piece < 16; piece++) {
            for (int what = 0; what < 3; what++) {
                look(all, "of", piece, 0, what);
                look(all, "of", piece, 2, what);
            }
        }
        String[] rows = {"abc", "bcb", "c", "ab", "bcbcbcbcbcbcbcbc"};
        for (String row : rows) {
            for (int voice = 0; voice < 2; voice++) {
                look(all, "said", voice, sounds(row), row.length(), 0);
                look(all, "said", voice, sounds(row), row.length(), 1);
                look(all, "bit", voice, sounds(row), row.length(), -1);
                look(all, "bit", voice, sounds(row), row.length(), 0);
            }
        }
        look(all, "piece", sounds("abc"), 3, 50, 50, 0);
        look(all, "lost");
        for (int piece = 0; piece < 17; piece++) {
            look(all, "worn", piece, 1);
        }
        look(all, "lost");
        return all;
    }

    private static void lookAtWords(List<Asked> all) {
        for (int word = 0; word < 32; word++) {
            look(all, "word", word, -1);
            look(all, "word", word, 0);
        }
        for (int line = 0; line < 8; line++) {
            for (int v = 0; v < 3; v++) {
                look(all, "line", line, v, -1);
                look(all, "jar", line, v, 0);
            }
        }
        look(all, "record");
    }

    private static List<Asked> lookAtTexts() {
        List<Asked> all = new ArrayList<>();
        lookAtCounts(all);
        look(all, "fault");
        lookAtWords(all);
        look(all, "write", packed("#"), 1);
        look(all, "fault");
        look(all, "told");
        lookAtCounts(all);
        lookAtWords(all);
        look(all, "erase");
        look(all, "write", packed("cut 98"), 6);
        look(all, "told");
        look(all, "count", 4);
        return all;
    }

    private static void lookAtCalls(List<Asked> all) {
        for (int call = 0; call < 24; call++) {
            for (int what = 0; what < 3; what++) {
                look(all, "heard", call, what);
            }
        }
        for (int platform = 0; platform < 6; platform++) {
            look(all, "speaks", platform);
            look(all, "voice", platform, 0);
            look(all, "voice", platform, 1);
        }
    }

    private static List<Asked> lookAtPlatforms() {
        List<Asked> all = new ArrayList<>();
        lookAtCounts(all);
        lookAtCalls(all);
        look(all, "call", 4, 0, 0, 0, 3000, 0);
        look(all, "run", 3);
        lookAtCalls(all);
        look(all, "change", 2);
        look(all, "run", 30);
        lookAtCalls(all);
        look(all, "understood", 4, 20);
        look(all, "power", NONE, 65535);
        for (int spot = 0; spot < 16; spot++) {
            look(all, "crowd", spot, 1);
        }
        return all;
    }

    /** No numbers, however far off, let a call throw or fail to end. */
    private static void everyEdge() {
        about("numbers far off");
        String[] names = {"piece", "worn", "of", "lost", "said", "bit", "write", "erase", "fault", "told", "word", "line",
            "jar", "call", "run", "heard", "speaks", "voice", "wish", "change", "record", "crowd", "understood", "power",
            "count"};
        int[] sizes = {5, 2, 3, 0, 4, 4, 2, 0, 0, 0, 2, 3, 3, 6, 1, 2, 1, 2, 3, 1, 0, 2, 2, 2, 1};
        long[] edges = {0, 1, -1, MAX, MIN, 16, 1L << 32, Long.MIN_VALUE, Long.MAX_VALUE};
        List<Supplier<OneVoice>> states = List.of(OneVoice::new, RefusedTest::busy, RefusedTest::full);
        for (Supplier<OneVoice> made : states) {
            for (int name = 0; name < names.length; name++) {
                OneVoice x = made.get();
                int rows = (int) Math.min(300, Math.pow(edges.length, sizes[name]));
                for (int row = 0; row < rows; row++) {
                    long[] args = new long[sizes[name]];
                    for (int i = 0, rest = row * 7919; i < args.length; i++, rest /= edges.length) {
                        args[i] = edges[rest % edges.length];
                    }
                    due(names[name] + " answers", ask(x, names[name], args) >= FULL ? 1 : 0, 1);
                }
                due("count(7) behind " + names[name], x.count(7), OUTSIDE);
            }
        }
    }
}
