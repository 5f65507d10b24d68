import java.util.ArrayList;
import java.util.List;
import java.util.Random;

/**
 * Short rows of sounds, said by trying all rows of bits one by one: no sum is carried from place to place, so a slip
 * in the way that the class (or the model) adds up jars or ways is seen here.
 */
public final class AllRowsTest extends Check {
    private static final int RUNS = 3000;
    private static final int MOST = 5;

    private record Piece(String letters, int begin, int end, int voice, int worn) {
        int tone(int place) {
            return letters.length() == 1 ? begin : begin + place * (end - begin) / (letters.length() - 1);
        }
    }

    private record Bit(int piece, int from, int many) implements Comparable<Bit> {
        @Override
        public int compareTo(Bit other) {
            int[] differences = {piece - other.piece, from - other.from, many - other.many};
            for (int one : differences) {
                if (one != 0) {
                    return one;
                }
            }
            return 0;
        }
    }

    private final Random random;
    private final OneVoice x = new OneVoice();
    private final List<Piece> pieces = new ArrayList<>();
    private int cost = 5;
    private int least;
    private long ways;
    private List<Bit> first;

    private AllRowsTest(long seed) {
        random = new Random(seed);
    }

    public static void main(String[] args) {
        int runs = args.length > 0 ? Integer.parseInt(args[0]) : RUNS;
        for (int seed = 0; seed < runs; seed++) {
            about("run " + seed);
            new AllRowsTest(seed).go();
        }
        end();
    }

    private String letters(int most) {
        StringBuilder made = new StringBuilder();
        for (int i = random.nextInt(most); i >= 0; i--) {
            made.append((char) ('a' + random.nextInt(2)));
        }
        return made.toString();
    }

    private int tone() {
        return random.nextInt(4) == 0 ? random.nextInt(100) : 3 * random.nextInt(4);
    }

    private void go() {
        for (int i = 1 + random.nextInt(4); i > 0; i--) {
            boolean again = !pieces.isEmpty() && random.nextInt(4) == 0;
            String sounds = again ? pieces.get(0).letters : letters(4);
            int worn = random.nextInt(3) == 0 ? random.nextInt(1 << sounds.length()) : 0;
            pieces.add(new Piece(sounds, tone(), tone(), random.nextInt(5) / 4, worn));
        }
        for (int i = 0; i < pieces.size(); i++) {
            Piece one = pieces.get(i);
            due("piece", piece(x, one.letters, one.begin, one.end, one.voice), i);
            due("worn", x.worn(i, one.worn), 0);
        }
        if (random.nextBoolean()) {
            cost = random.nextInt(3) == 0 ? 0 : random.nextInt(9);
            due("told()", tell(x, "cut " + cost), 1);
        }
        for (int i = 0; i < 6; i++) {
            ask(letters(MOST), random.nextInt(5) / 4);
        }
    }

    private void ask(String row, int voice) {
        least = Integer.MAX_VALUE;
        ways = 0;
        first = null;
        tryAll(row, voice, new ArrayList<>(), 0);
        String what = row + " by " + voice + " of " + pieces + ", a cut " + cost;
        long packed = sounds(row);
        due("jar of " + what, x.said(voice, packed, row.length(), 0), first == null ? NONE : least);
        due("ways of " + what, x.said(voice, packed, row.length(), 1), ways);
        due("bits of " + what, x.bit(voice, packed, row.length(), -1), first == null ? NONE : first.size());
        for (int i = 0; i <= row.length(); i++) {
            boolean there = first != null && i < first.size();
            Bit bit = there ? first.get(i) : new Bit(0, 0, 0);
            due("bit " + i + " of " + what, x.bit(voice, packed, row.length(), i),
                there ? 256 * bit.piece + 16 * bit.from + bit.many : NONE);
        }
    }

    private void tryAll(String row, int voice, List<Bit> bits, int at) {
        if (at == row.length()) {
            weigh(bits);
            return;
        }
        for (int p = 0; p < pieces.size(); p++) {
            Piece piece = pieces.get(p);
            for (int from = 0; from < piece.letters.length(); from++) {
                for (int many = 1; from + many <= piece.letters.length(); many++) {
                    String part = piece.letters.substring(from, from + many);
                    if (piece.voice == voice && row.startsWith(part, at) && nothingLost(piece, from, many)) {
                        bits.add(new Bit(p, from, many));
                        tryAll(row, voice, bits, at + many);
                        bits.remove(bits.size() - 1);
                    }
                }
            }
        }
    }

    private boolean nothingLost(Piece piece, int from, int many) {
        for (int place = from; place < from + many; place++) {
            boolean whole = false;
            for (Piece other : pieces) {
                boolean like = other.voice == piece.voice && other.letters.equals(piece.letters);
                whole |= like && (other.worn >> place & 1) == 0;
            }
            if (!whole) {
                return false;
            }
        }
        return true;
    }

    /** The jar of a whole row of bits, just as the document tells it. */
    private void weigh(List<Bit> bits) {
        int cuts = 0;
        int differences = 0;
        for (int i = 0; i < bits.size(); i++) {
            Bit bit = bits.get(i);
            Piece piece = pieces.get(bit.piece);
            cuts += bit.from > 0 ? 1 : 0;
            cuts += bit.from + bit.many < piece.letters.length() ? 1 : 0;
            if (i > 0) {
                Bit ahead = bits.get(i - 1);
                int last = pieces.get(ahead.piece).tone(ahead.from + ahead.many - 1);
                differences += Math.abs(piece.tone(bit.from) - last);
            }
        }
        int jar = cuts * cost + differences;
        if (jar < least) {
            least = jar;
            ways = 0;
            first = null;
        }
        if (jar == least) {
            ways++;
            if (first == null || comesAhead(bits, first)) {
                first = new ArrayList<>(bits);
            }
        }
    }

    private static boolean comesAhead(List<Bit> one, List<Bit> other) {
        for (int i = 0; i < one.size() && i < other.size(); i++) {
            int order = one.get(i).compareTo(other.get(i));
            if (order != 0) {
                return order < 0;
            }
        }
        return false;
    }
}
