import java.math.BigInteger;
import java.util.ArrayList;
import java.util.HashMap;
import java.util.HashSet;
import java.util.List;
import java.util.Map;
import java.util.Random;
import java.util.Set;
import java.util.regex.Matcher;
import java.util.regex.Pattern;

/** Many runs of calls, on the class and on a plain reading of the document beside it; each answer is compared. */
public final class ModelTest extends Check {
    private static final int RUNS = 1000;
    private static int wrong = 0;

    private final Random random;
    private final OneVoice voice = new OneVoice();
    private final Model model = new Model();
    private final StringBuilder history = new StringBuilder();

    private ModelTest(long seed) {
        random = new Random(seed);
    }

    public static void main(String[] args) {
        int runs = args.length > 0 ? Integer.parseInt(args[0]) : RUNS;
        Map<String, Integer> answers = new HashMap<>();
        for (int i = 0; i < runs && wrong == 0; i++) {
            new ModelTest(i).go(answers);
        }
        if (args.length > 1) {
            answers.entrySet().stream().sorted(Map.Entry.comparingByKey())
                .forEach(e -> System.out.println(e.getKey() + ": " + e.getValue()));
        }
        System.out.println(wrong == 0 ? runs + " runs answered as the model" : "an answer is not the model's");
        if (wrong != 0) {
            System.exit(1);
        }
    }

    private void go(Map<String, Integer> answers) {
        int style = random.nextInt(5);
        int calls = style < 2 ? 0 : prologue(answers);
        for (int i = 0; i < 60 && calls < 440; i++) {
            calls += turn(style, answers);
        }
    }

    /** Pieces, words and lines with which much can be spoken. */
    private int prologue(Map<String, Integer> answers) {
        int calls = 0;
        for (int i = 0; i < 3; i++) {
            calls += same(answers, "piece", i + 16 * random.nextInt(3), 1 + random.nextInt(2), tone(), tone(), 0);
        }
        calls += same(answers, "piece", random.nextInt(3), 1, tone(), tone(), random.nextInt(4));
        StringBuilder made = new StringBuilder();
        for (int word = 0; word < 10; word++) {
            made.append(word == 0 ? "" : ";").append("word ").append(word).append(" is ").append(letters(4));
        }
        calls += tell(answers, made.toString());
        made.setLength(0);
        for (int word = 20; word < 28; word++) {
            made.append(word == 20 ? "" : ";").append("word ").append(word).append(" is ").append(letters(4));
        }
        calls += tell(answers, made.toString());
        made.setLength(0);
        for (int line = 0; line < 6; line++) {
            made.append(line == 0 ? "" : ";").append("line ").append(line).append(" is");
            for (int i = random.nextInt(4); i >= 0; i--) {
                made.append(chance(3) ? " #" : " " + random.nextInt(6));
            }
        }
        made.append(";near 0 1;near 1 2;near 3 4");
        return calls + tell(answers, made.toString());
    }

    private String letters(int most) {
        StringBuilder made = new StringBuilder();
        for (int i = random.nextInt(most); i >= 0; i--) {
            made.append((char) ('a' + random.nextInt(3)));
        }
        return made.toString();
    }

    private boolean chance(int of) {
        return random.nextInt(of) == 0;
    }

    /** Mostly below the bound, now and then at the edges or out of it. */
    private int about(int bound) {
        if (chance(40)) {
            int[] odd = {-1, -2, bound, bound + 1, Integer.MIN_VALUE, Integer.MAX_VALUE};
            return odd[random.nextInt(odd.length)];
        }
        return chance(8) ? bound - 1 : random.nextInt(bound);
    }

    /** Mostly of words that the prologue tells. */
    private int aboutNumber() {
        return chance(3) ? about(100) : chance(2) ? random.nextInt(10) : 20 + random.nextInt(80);
    }

    private int turn(int style, Map<String, Integer> answers) {
        int kind = random.nextInt(style == 0 ? 6 : style == 1 ? 9 : 16);
        if (kind < 2) {
            return same(answers, "piece", soundsLike(8), sizeLike(8), tone(), tone(), about(chance(3) ? 4 : 1));
        } else if (kind == 2) {
            return same(answers, "worn", about(Math.max(1, model.pieces.size())), chance(3) ? random.nextInt(256) : random.nextInt(4))
                + same(answers, "of", about(16), about(4), about(3)) + same(answers, "lost");
        } else if (kind < 6) {
            long sounds = longSoundsLike();
            int n = about(16) + 1;
            int by = about(chance(3) ? 4 : 1);
            return same(answers, "said", by, sounds, n, 0) + same(answers, "said", by, sounds, n, 1)
                + same(answers, "said", by, sounds, n, about(2)) + same(answers, "bit", by, sounds, n, -1)
                + same(answers, "bit", by, sounds, n, 0) + same(answers, "bit", by, sounds, n, 1)
                + same(answers, "bit", by, sounds, n, about(8)) + same(answers, "of", about(16), about(4), about(3));
        } else if (kind < 9) {
            return text(answers);
        } else if (kind == 9) {
            return same(answers, "word", about(32), about(8)) + same(answers, "word", about(32), -1)
                + same(answers, "line", about(6), aboutNumber(), about(20))
                + same(answers, "line", about(8), aboutNumber(), -1)
                + same(answers, "jar", about(6), aboutNumber(), about(chance(3) ? 4 : 1));
        } else if (kind < 14) {
            return platforms(answers);
        } else if (kind == 14) {
            return same(answers, "record") + same(answers, "count", about(7)) + same(answers, "erase");
        }
        return same(answers, "crowd", about(16), about(100)) + same(answers, "understood", about(16), about(160))
            + same(answers, "understood", about(16), about(1000))
            + same(answers, "power", about(17) - 1, about(65536))
            + same(answers, "power", -1, 1 << random.nextInt(17));
    }

    private int platforms(Map<String, Integer> answers) {
        int calls = 0;
        for (int i = random.nextInt(4); i > 0; i--) {
            int now = model.ticks;
            int ready = chance(30) ? about(2001) : Math.max(0, now + random.nextInt(12) - 4);
            int stale = chance(30) ? about(3001) : ready + random.nextInt(40);
            calls += same(answers, "call", about(6), about(6), aboutNumber(), ready, stale, random.nextInt(3) / 2);
        }
        if (chance(4)) {
            calls += same(answers, "wish", about(6), about(4), about(6));
        }
        if (chance(4)) {
            calls += same(answers, "change", chance(2) ? 0 : about(4));
        }
        for (int i = 0; i < 3; i++) {
            calls += same(answers, "run", chance(20) ? about(101) : 1 + random.nextInt(4));
            calls += same(answers, "heard", about(Math.max(1, model.calls.size())), about(3));
            calls += same(answers, "heard", about(24), about(3));
            calls += same(answers, "speaks", about(6));
        }
        return calls + same(answers, "voice", about(6), about(2));
    }

    private int tone() {
        return chance(2) ? about(100) : 5 * random.nextInt(3);
    }

    private int sizeLike(int most) {
        return chance(30) ? about(most + 2) : 1 + random.nextInt(chance(3) ? most : 3);
    }

    /** Of few sounds, so that rows fit to each other. */
    private int soundsLike(int n) {
        return (int) longSoundsLike();
    }

    private long longSoundsLike() {
        if (chance(20)) {
            return random.nextLong();
        }
        int kinds = chance(3) ? 1 : 1 + random.nextInt(3);
        long sounds = 0;
        for (int i = 0; i < 16; i++) {
            sounds |= (long) random.nextInt(kinds) << (4 * i);
        }
        return sounds;
    }

    private int text(Map<String, Integer> answers) {
        StringBuilder made = new StringBuilder();
        int rows = chance(10) ? 10 + random.nextInt(2) : 1 + random.nextInt(6);
        for (int i = 0; i < rows; i++) {
            made.append(i == 0 ? "" : ";").append(row());
        }
        String whole = chance(3) ? spoil(made.toString()) : made.toString();
        int calls = 0;
        if (chance(5)) {
            calls += same(answers, "write", random.nextLong(), about(9));
            calls += same(answers, "fault");
            calls += same(answers, "erase");
        }
        return calls + tell(answers, whole) + same(answers, "count", about(7))
            + (chance(3) ? 0 : same(answers, "erase"));
    }

    private int tell(Map<String, Integer> answers, String whole) {
        int calls = 0;
        for (int i = 0; i < whole.length(); i += 8) {
            int n = Math.min(8, whole.length() - i);
            long packed = 0;
            for (int j = 0; j < n; j++) {
                packed |= (long) (whole.charAt(i + j) & 255) << (8 * j);
            }
            calls += same(answers, "write", packed, n);
        }
        return calls + same(answers, "fault") + same(answers, "told");
    }

    private String number(int bound) {
        int n = chance(60) ? bound : random.nextInt(bound);
        return n < 10 && chance(8) ? "0" + n : "" + n;
    }

    private String gap() {
        return chance(10) ? "  " : " ";
    }

    private String row() {
        int kind = random.nextInt(10);
        if (kind < 4) {
            StringBuilder letters = new StringBuilder();
            for (int i = sizeLike(8); i > 0 && letters.length() < 10; i--) {
                letters.append((char) ('a' + (chance(60) ? random.nextInt(18) : random.nextInt(3))));
            }
            String which = chance(2) ? number(32) : chance(3) ? number(4) : "" + (27 + random.nextInt(5));
            return "word" + gap() + which + gap() + "is" + gap() + letters;
        } else if (kind < 7) {
            StringBuilder parts = new StringBuilder();
            for (int i = sizeLike(8); i > 0 && parts.length() < 30; i--) {
                parts.append(gap()).append(chance(4) ? "#" : number(chance(3) ? 32 : 4));
            }
            return "line" + gap() + number(8) + gap() + "is" + parts;
        } else if (kind == 7) {
            return "cut" + gap() + (chance(2) ? "0" : number(100));
        }
        return (chance(3) ? "far" : "near") + gap() + number(6) + gap() + number(6);
    }

    private String spoil(String whole) {
        StringBuilder made = new StringBuilder(whole);
        for (int i = 1 + random.nextInt(2); i > 0 && made.length() > 0; i--) {
            int at = random.nextInt(made.length());
            String signs = " ;#09azisqp1" + (char) 0 + (char) 233 + "A\t";
            switch (random.nextInt(4)) {
                case 0 -> made.deleteCharAt(at);
                case 1 -> made.insert(at, signs.charAt(random.nextInt(signs.length())));
                case 2 -> made.setCharAt(at, signs.charAt(random.nextInt(signs.length())));
                default -> made.setLength(at);
            }
        }
        return made.toString();
    }

    private int same(Map<String, Integer> answers, String name, long... a) {
        if (wrong != 0) {
            return 1;
        }
        StringBuilder told = new StringBuilder(name).append('(');
        for (int i = 0; i < a.length; i++) {
            told.append(i == 0 ? "" : ", ").append(a[i]);
        }
        told.append(')');
        long want = model.ask(name, a);
        long got = ask(voice, name, a);
        history.append(told).append(" -> ").append(got).append('\n');
        boolean apart = want < 0 || name.equals("record") || name.equals("heard") && a[1] == 0;
        answers.merge(name + (apart ? " " + want : ""), 1, Integer::sum);
        if (got != want) {
            wrong++;
            System.out.println(history);
            System.out.println(told + " answered " + got + ", due is " + want);
        }
        return 1;
    }

    private record ModelPiece(List<Integer> sounds, int begin, int end, int voice, Set<Integer> worn) {
        int tone(int i) {
            int n = sounds.size();
            return n == 1 ? begin : begin + i * (end - begin) / (n - 1);
        }
    }

    private record Bit(int piece, int from, int many) { }

    private static final class ModelCall {
        int platform, line, number, ready, stale, state, said, began = -1;
        boolean danger, stop;
        List<Integer> wordOfSound = new ArrayList<>();
    }

    /** The document, read plainly: lists, sets and trying all. */
    private static final class Model {
        private static final BigInteger MODULUS = BigInteger.valueOf(1000000007);
        private static final Pattern TEXT = Pattern.compile(textPattern());

        final List<ModelPiece> pieces = new ArrayList<>();
        final StringBuilder text = new StringBuilder();
        final Map<Integer, List<Integer>> words = new HashMap<>();
        final Map<Integer, List<Integer>> lines = new HashMap<>();
        final Set<List<Integer>> near = new HashSet<>();
        final List<ModelCall> calls = new ArrayList<>();
        final int[] voices = new int[6];
        final int[] wishes = new int[6];
        final int[] crowd = new int[16];
        int cut = 5;
        int ticks = 0;
        private final Map<List<Integer>, Integer> least = new HashMap<>();
        private final Map<List<Integer>, BigInteger> ways = new HashMap<>();
        private List<Integer> row;
        private List<Bit> bits;

        private static boolean in(long x, long least, long most) {
            return least <= x && x <= most;
        }

        long ask(String name, long[] a) {
            return switch (name) {
                case "piece" -> piece(a);
                case "worn" -> worn(a);
                case "of" -> of(a);
                case "lost" -> lost();
                case "said" -> said(a);
                case "bit" -> bit(a);
                case "write" -> write(a);
                case "erase" -> erase();
                case "fault" -> fault();
                case "told" -> told();
                case "word" -> word(a);
                case "line" -> line(a);
                case "jar" -> jar(a);
                case "call" -> call(a);
                case "run" -> run(a);
                case "heard" -> heard(a);
                case "speaks" -> speaks(a);
                case "voice" -> !in(a[0], 0, 5) ? -2 : a[1] == 0 ? voices[(int) a[0]]
                    : a[1] == 1 ? wishes[(int) a[0]] : -3;
                case "wish" -> wish(a);
                case "change" -> change(a);
                case "record" -> record();
                case "crowd" -> crowd(a);
                case "understood" -> understood(a);
                case "power" -> power(a);
                default -> count(a);
            };
        }

        private static List<Integer> unpack(long sounds, long n) {
            List<Integer> list = new ArrayList<>();
            for (int i = 0; i < n; i++) {
                list.add((int) (sounds >> 4 * i & 15));
            }
            return list;
        }

        private long piece(long[] a) {
            if (!in(a[1], 1, 8) || !in(a[2], 0, 99) || !in(a[3], 0, 99) || !in(a[4], 0, 3)) {
                return -3;
            }
            if (pieces.size() == 16) {
                return -5;
            }
            pieces.add(new ModelPiece(unpack(a[0], a[1]), (int) a[2], (int) a[3], (int) a[4], new HashSet<>()));
            return pieces.size() - 1;
        }

        private long worn(long[] a) {
            if (!in(a[0], 0, pieces.size() - 1)) {
                return -2;
            }
            ModelPiece piece = pieces.get((int) a[0]);
            if (!in(a[1], 0, (1 << piece.sounds.size()) - 1)) {
                return -3;
            }
            long were = 0;
            for (int place : piece.worn) {
                were += 1 << place;
            }
            piece.worn.clear();
            for (int i = 0; i < 8; i++) {
                if ((a[1] >> i & 1) == 1) {
                    piece.worn.add(i);
                }
            }
            return were;
        }

        private boolean isLost(ModelPiece piece, int place) {
            if (!piece.worn.contains(place)) {
                return false;
            }
            for (ModelPiece other : pieces) {
                if (other.voice == piece.voice && other.sounds.equals(piece.sounds) && !other.worn.contains(place)) {
                    return false;
                }
            }
            return true;
        }

        private long of(long[] a) {
            if (!in(a[0], 0, pieces.size() - 1) || !in(a[1], 0, pieces.get((int) a[0]).sounds.size() - 1)) {
                return -2;
            }
            ModelPiece piece = pieces.get((int) a[0]);
            int place = (int) a[1];
            if (a[2] == 0) {
                return piece.sounds.get(place);
            }
            if (a[2] == 1) {
                return piece.tone(place);
            }
            return a[2] != 2 ? -3 : isLost(piece, place) ? 2 : piece.worn.contains(place) ? 1 : 0;
        }

        private long lost() {
            long lost = 0;
            for (ModelPiece piece : pieces) {
                for (int i = 0; i < piece.sounds.size(); i++) {
                    lost += isLost(piece, i) ? 1 : 0;
                }
            }
            return lost;
        }

        private void prepare(long voice, List<Integer> sounds) {
            row = sounds;
            least.clear();
            ways.clear();
            bits = new ArrayList<>();
            for (int p = 0; p < pieces.size(); p++) {
                ModelPiece piece = pieces.get(p);
                for (int from = 0; from < piece.sounds.size() && piece.voice == voice; from++) {
                    for (int many = 1; from + many <= piece.sounds.size(); many++) {
                        boolean whole = true;
                        for (int i = from; i < from + many; i++) {
                            whole &= !isLost(piece, i);
                        }
                        if (whole) {
                            bits.add(new Bit(p, from, many));
                        }
                    }
                }
            }
        }

        private boolean fits(Bit bit, int at) {
            return at + bit.many <= row.size() && pieces.get(bit.piece).sounds.subList(bit.from, bit.from + bit.many)
                .equals(row.subList(at, at + bit.many));
        }

        /** Jar of the bit with what comes behind it; null: it cannot be. tone -1: nothing came ahead of it. */
        private Integer through(Bit bit, int at, int tone) {
            ModelPiece piece = pieces.get(bit.piece);
            int jar = (bit.from > 0 ? cut : 0) + (bit.from + bit.many < piece.sounds.size() ? cut : 0);
            if (tone >= 0) {
                jar += Math.abs(tone - piece.tone(bit.from));
            }
            Integer rest = solve(at + bit.many, piece.tone(bit.from + bit.many - 1));
            return rest == null ? null : (Integer) (jar + rest);
        }

        private Integer solve(int at, int tone) {
            if (at == row.size()) {
                ways.put(List.of(at, tone), BigInteger.ONE);
                return 0;
            }
            List<Integer> key = List.of(at, tone);
            if (least.containsKey(key)) {
                return least.get(key);
            }
            Integer best = null;
            BigInteger sum = BigInteger.ZERO;
            for (Bit bit : bits) {
                if (fits(bit, at)) {
                    Integer jar = through(bit, at, tone);
                    int end = pieces.get(bit.piece).tone(bit.from + bit.many - 1);
                    BigInteger more = ways.get(List.of(at + bit.many, end));
                    if (jar != null && (best == null || jar < best)) {
                        best = jar;
                        sum = more;
                    } else if (jar != null && jar.equals(best)) {
                        sum = sum.add(more);
                    }
                }
            }
            least.put(key, best);
            ways.put(key, sum);
            return best;
        }

        private long said(long[] a) {
            if (!in(a[0], 0, 3) || !in(a[2], 1, 16) || !in(a[3], 0, 1)) {
                return -3;
            }
            prepare(a[0], unpack(a[1], a[2]));
            Integer jar = solve(0, -1);
            return a[3] == 1 ? ways.get(List.of(0, -1)).mod(MODULUS).intValue() : jar == null ? -1 : jar;
        }

        private long bit(long[] a) {
            if (!in(a[0], 0, 3) || !in(a[2], 1, 16) || a[3] < -1) {
                return -3;
            }
            prepare(a[0], unpack(a[1], a[2]));
            Integer due = solve(0, -1);
            if (due == null) {
                return -1;
            }
            List<Bit> found = new ArrayList<>();
            int at = 0;
            int tone = -1;
            while (at < row.size()) {
                Integer goal = solve(at, tone);
                for (Bit bit : bits) {
                    if (fits(bit, at) && goal.equals(through(bit, at, tone))) {
                        found.add(bit);
                        at += bit.many;
                        tone = pieces.get(bit.piece).tone(bit.from + bit.many - 1);
                        break;
                    }
                }
            }
            if (a[3] == -1) {
                return found.size();
            }
            if (a[3] >= found.size()) {
                return -1;
            }
            Bit bit = found.get((int) a[3]);
            return 256L * bit.piece + 16L * bit.from + bit.many;
        }

        private long write(long[] a) {
            if (!in(a[1], 1, 8)) {
                return -3;
            }
            if (text.length() + a[1] > 200) {
                return -5;
            }
            for (int i = 0; i < a[1]; i++) {
                text.append((char) (a[0] >> 8 * i & 255));
            }
            return text.length();
        }

        private long erase() {
            int had = text.length();
            text.setLength(0);
            return had;
        }

        private static String numbersTo(int most) {
            StringBuilder all = new StringBuilder("(");
            for (int i = 0; i <= most; i++) {
                all.append(i == 0 ? "" : "|").append(i < 10 ? "0?" : "").append(i);
            }
            return all.append(")").toString();
        }

        /** Every token has a blank behind it. */
        private static String textPattern() {
            StringBuilder pair = new StringBuilder("(");
            for (int i = 0; i < 36; i++) {
                if (i / 6 != i % 6) {
                    pair.append(pair.length() == 1 ? "" : "|").append("0?" + i / 6 + " 0?" + i % 6 + " ");
                }
            }
            pair.append(")");
            String row = "(word " + numbersTo(31) + " is [a-p]{1,8} |line " + numbersTo(7) + " is ((" + numbersTo(31)
                + "|#) ){1,8}|cut [0-9]{1,2} |(near|far) " + pair + ")";
            return row + "(; " + row + "){0,9}";
        }

        private static boolean mayStand(String tokens) {
            Matcher matcher = TEXT.matcher(tokens);
            return matcher.matches() || matcher.hitEnd();
        }

        private long fault() {
            Matcher tokens = Pattern.compile("[a-z]+|[0-9]+|[^ ]", Pattern.DOTALL).matcher(text);
            StringBuilder all = new StringBuilder();
            while (tokens.find()) {
                all.append(tokens.group()).append(' ');
                if (!mayStand(all.toString())) {
                    return tokens.start();
                }
            }
            return TEXT.matcher(all).matches() ? -1 : text.length();
        }

        private long told() {
            if (fault() != -1) {
                return -4;
            }
            String[] rows = text.toString().split(";");
            for (String one : rows) {
                Matcher finder = Pattern.compile("[a-z]+|[0-9]+|#").matcher(one);
                List<String> tokens = new ArrayList<>();
                while (finder.find()) {
                    tokens.add(finder.group());
                }
                follow(tokens);
            }
            text.setLength(0);
            return rows.length;
        }

        private void follow(List<String> tokens) {
            int first = Integer.parseInt(tokens.get(1));
            List<Integer> made = new ArrayList<>();
            switch (tokens.get(0)) {
                case "word" -> {
                    for (char letter : tokens.get(3).toCharArray()) {
                        made.add(letter - 'a');
                    }
                    words.put(first, made);
                }
                case "line" -> {
                    for (String part : tokens.subList(3, tokens.size())) {
                        made.add(part.equals("#") ? -1 : Integer.parseInt(part));
                    }
                    lines.put(first, made);
                }
                case "cut" -> cut = first;
                default -> {
                    int second = Integer.parseInt(tokens.get(2));
                    List<List<Integer>> both = List.of(List.of(first, second), List.of(second, first));
                    if (tokens.get(0).equals("near")) {
                        near.addAll(both);
                    } else {
                        near.removeAll(both);
                    }
                }
            }
        }

        private List<Integer> wordsOf(int line, int v) {
            List<Integer> made = new ArrayList<>();
            for (int part : lines.get(line)) {
                if (part >= 0) {
                    made.add(part);
                } else if (v < 20) {
                    made.add(v);
                } else {
                    made.add(18 + v / 10);
                    if (v % 10 > 0) {
                        made.add(v % 10);
                    }
                }
            }
            return made;
        }

        private boolean can(int line, int v) {
            return words.keySet().containsAll(wordsOf(line, v));
        }

        private List<Integer> soundsOf(int line, int v) {
            List<Integer> made = new ArrayList<>();
            wordsOf(line, v).forEach(word -> made.addAll(words.get(word)));
            return made;
        }

        private long word(long[] a) {
            if (!in(a[0], 0, 31)) {
                return -2;
            }
            if (a[1] < -1) {
                return -3;
            }
            List<Integer> sounds = words.getOrDefault((int) a[0], List.of());
            return a[1] == -1 ? sounds.size() : a[1] < sounds.size() ? sounds.get((int) a[1]) : -1;
        }

        private long line(long[] a) {
            if (!lines.containsKey((int) a[0])) {
                return -2;
            }
            if (!in(a[1], 0, 99) || a[2] < -1) {
                return -3;
            }
            if (!can((int) a[0], (int) a[1])) {
                return -4;
            }
            List<Integer> sounds = soundsOf((int) a[0], (int) a[1]);
            return a[2] == -1 ? sounds.size() : a[2] < sounds.size() ? sounds.get((int) a[2]) : -1;
        }

        private long jar(long[] a) {
            if (!lines.containsKey((int) a[0])) {
                return -2;
            }
            if (!in(a[1], 0, 99) || !in(a[2], 0, 3)) {
                return -3;
            }
            if (!can((int) a[0], (int) a[1])) {
                return -4;
            }
            long sum = 0;
            for (int word : wordsOf((int) a[0], (int) a[1])) {
                prepare(a[2], words.get(word));
                Integer jar = solve(0, -1);
                if (jar == null) {
                    return -1;
                }
                sum += jar;
            }
            return sum;
        }

        private long call(long[] a) {
            if (!in(a[0], 0, 5) || !lines.containsKey((int) a[1])) {
                return -2;
            }
            if (!in(a[2], 0, 99) || !in(a[3], 0, 2000) || a[4] <= a[3] || a[4] > 3000) {
                return -3;
            }
            if (calls.size() == 24) {
                return -5;
            }
            ModelCall one = new ModelCall();
            one.platform = (int) a[0];
            one.line = (int) a[1];
            one.number = (int) a[2];
            one.ready = (int) a[3];
            one.stale = (int) a[4];
            one.danger = a[5] == 1;
            calls.add(one);
            return calls.size() - 1;
        }

        private long run(long[] a) {
            if (!in(a[0], 1, 100) || ticks + a[0] > 2000) {
                return -3;
            }
            for (int i = 0; i < a[0]; i++) {
                tick();
            }
            return ticks;
        }

        private boolean together(ModelCall a, ModelCall b) {
            return a.platform == b.platform || near.contains(List.of(a.platform, b.platform));
        }

        private void tick() {
            for (ModelCall one : calls) {
                if (one.state == 0 && one.stale <= ticks) {
                    one.state = 4;
                }
            }
            for (ModelCall one : calls) {
                if (one.state == 0 && one.danger && one.ready <= ticks) {
                    for (ModelCall other : calls) {
                        if (other.state == 1 && !other.danger && together(one, other)) {
                            other.stop = true;
                        }
                    }
                    if (calls.stream().noneMatch(other -> other.state == 1 && together(one, other))) {
                        begin(one);
                    }
                }
            }
            for (ModelCall one : calls) {
                if (one.state == 0 && !one.danger && one.ready <= ticks
                    && calls.stream().noneMatch(other -> other.state == 1 && together(one, other))
                    && calls.stream().noneMatch(other -> other.state == 0 && other.danger && other.ready <= ticks
                        && together(one, other))) {
                    begin(one);
                }
            }
            for (ModelCall one : calls) {
                if (one.state == 1) {
                    int word = one.wordOfSound.get(one.said);
                    one.said++;
                    if (one.said == one.wordOfSound.size()) {
                        one.state = 2;
                    } else if (one.stop && one.wordOfSound.get(one.said) != word) {
                        one.state = 3;
                    }
                }
            }
            ticks++;
        }

        private void begin(ModelCall one) {
            if (jar(new long[] {one.line, one.number, voices[one.platform]}) < 0) {
                one.state = 5;
                return;
            }
            one.state = 1;
            one.began = ticks;
            List<Integer> spelled = wordsOf(one.line, one.number);
            for (int i = 0; i < spelled.size(); i++) {
                for (int j = 0; j < words.get(spelled.get(i)).size(); j++) {
                    one.wordOfSound.add(i);
                }
            }
        }

        private long heard(long[] a) {
            if (!in(a[0], 0, calls.size() - 1)) {
                return -2;
            }
            ModelCall one = calls.get((int) a[0]);
            return a[1] == 0 ? one.state : a[1] == 1 ? one.said : a[1] == 2 ? one.began : -3;
        }

        private long speaks(long[] a) {
            if (!in(a[0], 0, 5)) {
                return -2;
            }
            for (int i = 0; i < calls.size(); i++) {
                if (calls.get(i).state == 1 && calls.get(i).platform == a[0]) {
                    return i;
                }
            }
            return -1;
        }

        private long wish(long[] a) {
            if (!in(a[0], 0, 5)) {
                return -2;
            }
            if (!in(a[1], 0, 3) || !in(a[2], 1, 5)) {
                return -3;
            }
            int had = voices[(int) a[0]];
            voices[(int) a[0]] = (int) a[1];
            wishes[(int) a[0]] = (int) a[2];
            return had;
        }

        private long change(long[] a) {
            if (!in(a[0], 0, 3)) {
                return -3;
            }
            long have = 0;
            for (int i = 0; i < 6; i++) {
                if (wishes[i] == 0) {
                    voices[i] = (int) a[0];
                } else {
                    wishes[i]--;
                }
                have += voices[i] == a[0] ? 1 : 0;
            }
            return have;
        }

        private static Set<List<Integer>> steps(List<Integer> sounds) {
            Set<List<Integer>> all = new HashSet<>();
            List<Integer> padded = new ArrayList<>(sounds);
            padded.add(0, 16);
            padded.add(16);
            for (int i = 1; i < padded.size(); i++) {
                all.add(List.of(padded.get(i - 1), padded.get(i)));
            }
            return all;
        }

        private long record() {
            Set<List<Integer>> needed = new HashSet<>();
            for (int word = 28; word < 32; word++) {
                if (words.containsKey(word)) {
                    needed.addAll(steps(words.get(word)));
                }
            }
            for (int many = 0; many <= 8; many++) {
                for (int set = 0; set < 256; set++) {
                    if (Integer.bitCount(set) == many && does(set, needed)) {
                        return set;
                    }
                }
            }
            return -1;
        }

        private boolean does(int set, Set<List<Integer>> needed) {
            Set<List<Integer>> had = new HashSet<>();
            for (int line = 0; line < 8; line++) {
                if ((set >> line & 1) == 1) {
                    if (!lines.containsKey(line) || lines.get(line).contains(-1) || !can(line, 0)) {
                        return false;
                    }
                    had.addAll(steps(soundsOf(line, 0)));
                }
            }
            return had.containsAll(needed);
        }

        private long crowd(long[] a) {
            if (!in(a[0], 0, 15)) {
                return -2;
            }
            if (!in(a[1], 0, 99)) {
                return -3;
            }
            int was = crowd[(int) a[0]];
            crowd[(int) a[0]] = (int) a[1];
            return was;
        }

        private boolean understands(int i, int k, int v) {
            return v - 3 * Math.abs(i - k) - crowd[i] > 10;
        }

        private long understood(long[] a) {
            if (!in(a[0], 0, 15)) {
                return -2;
            }
            if (!in(a[1], 0, 999)) {
                return -3;
            }
            long set = 0;
            for (int i = 0; i < 16; i++) {
                set += understands(i, (int) a[0], (int) a[1]) ? 1 << i : 0;
            }
            return set;
        }

        private long power(long[] a) {
            if (!in(a[0], -1, 15)) {
                return -2;
            }
            if (!in(a[1], 0, 65535)) {
                return -3;
            }
            for (int v = 0; v <= 999; v++) {
                for (int k = 0; k < 16; k++) {
                    boolean all = a[0] == -1 || a[0] == k;
                    for (int i = 0; i < 16; i++) {
                        all &= (a[1] >> i & 1) == 0 || understands(i, k, v);
                    }
                    if (all) {
                        return a[0] == -1 ? 16L * v + k : v;
                    }
                }
            }
            return -99;
        }

        private long count(long[] a) {
            int[] counts = {pieces.size(), text.length(), words.size(), lines.size(), cut, calls.size(), ticks};
            return in(a[0], 0, 6) ? counts[(int) a[0]] : -3;
        }
    }
}
