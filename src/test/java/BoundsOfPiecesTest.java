import java.util.Arrays;

/** Promises 1 to 7 at their bounds: each sentence of the document that names one has a test of its own. */
public final class BoundsOfPiecesTest extends Check {
    private static final int MODULUS = 1000000007;

    public static void main(String[] args) {
        newObject();
        sounds();
        sixteenPieces();
        oneToEightSounds();
        tones();
        voices();
        wornAtFirst();
        toneAtAPlace();
        mended();
        mendedByTheSameRow();
        bitsBehindAPiece();
        wornBits();
        ofPlaces();
        ofWhat();
        lostOfAll();
        bitsOfOneAtLeast();
        noPlaceLost();
        cutsAtBeginAndEnd();
        costOfACut();
        differences();
        allTones();
        bitsOfOneVoice();
        ways();
        waysThatBeginApart();
        waysThatWrap();
        firstByPieceFromAndFewest();
        firstByTones();
        saidOfOneToSixteen();
        saidBitsBehind();
        saidWhat();
        saidNone();
        bitNumbers();
        bitNone();
        bitOutside();
        end();
    }

    private static void newObject() {
        sentence("No PIECES, no WORDS.");
        OneVoice x = new OneVoice();
        due("count(0)", x.count(0), 0);
        due("count(2)", x.count(2), 0);
        due("of(0, 0, 0)", x.of(0, 0, 0), UNKNOWN);
        due("worn(0, 0)", x.worn(0, 0), UNKNOWN);
        due("lost()", x.lost(), 0);
        for (int voice = 0; voice < 4; voice++) {
            due("said(voice, 0, 1, 0)", x.said(voice, 0, 1, 0), NONE);
            due("said(voice, 0, 16, 1)", x.said(voice, 0, 16, 1), 0);
            due("bit(voice, 0, 1, -1)", x.bit(voice, 0, 1, -1), NONE);
        }
        for (int word = 0; word < 32; word++) {
            due("word(" + word + ", -1)", x.word(word, -1), 0);
            due("word(" + word + ", 0)", x.word(word, 0), NONE);
        }
        due("its first piece", x.piece(0, 1, 0, 0, 0), 0);
        due("another new object", new OneVoice().count(0), 0);
    }

    private static void sounds() {
        sentence("15, written a .. p.");
        OneVoice x = new OneVoice();
        x.piece(0xF0, 2, 0, 0, 0);
        due("the least sound", x.of(0, 0, 0), 0);
        due("the last sound", x.of(0, 1, 0), 15);
        due("told()", tell(x, "word 0 is ap"), 1);
        due("a", x.word(0, 0), 0);
        due("p", x.word(0, 1), 15);
        faultAt("word 0 is q", 10);
        faultAt("word 0 is `", 10);
        faultAt("word 0 is A", 10);
    }

    private static void sixteenPieces() {
        sentence("PIECES are 16 at most");
        OneVoice x = new OneVoice();
        for (int i = 0; i < 16; i++) {
            due("of(" + i + ", 0, 0) ahead of it", x.of(i, 0, 0), UNKNOWN);
            due("worn(" + i + ", 0) ahead of it", x.worn(i, 0), UNKNOWN);
            due("piece " + i, x.piece(i, 1, i, i, 0), i);
            due("of(" + i + ", 0, 0)", x.of(i, 0, 0), i);
        }
        due("a 17th", x.piece(3, 1, 0, 0, 0), FULL);
        due("a 17th of another voice", x.piece(3, 8, 99, 0, 3), FULL);
        due("count(0)", x.count(0), 16);
        due("of(16, 0, 0)", x.of(16, 0, 0), UNKNOWN);
        due("worn(16, 0)", x.worn(16, 0), UNKNOWN);
        due("the 16th is in use", said(x, "op", 0), 1);
        due("and the first", said(x, "ap", 0), 15);
        due("the 17th is not", x.said(3, 3, 1, 0), NONE);
    }

    private static void oneToEightSounds() {
        sentence("each a row of 1 to 8 SOUNDS");
        OneVoice x = new OneVoice();
        int[] outside = {MIN, -8, -1, 0, 9, 16, MAX};
        for (int n : outside) {
            due("n " + n, x.piece(0, n, 0, 0, 0), OUTSIDE);
        }
        due("count(0)", x.count(0), 0);
        for (int n = 1; n <= 8; n++) {
            due("n " + n, x.piece(0x77777777, n, 0, 0, 0), n - 1);
            due("its last place", x.of(n - 1, n - 1, 0), 7);
            due("behind it", x.of(n - 1, n, 0), UNKNOWN);
        }
    }

    private static void tones() {
        sentence("with a TONE at its begin and at its end (0 .. 99 each)");
        OneVoice x = new OneVoice();
        int[] outside = {MIN, -1, 100, 101, MAX};
        for (int tone : outside) {
            due("begin " + tone, x.piece(0, 2, tone, 50, 0), OUTSIDE);
            due("end " + tone, x.piece(0, 2, 50, tone, 0), OUTSIDE);
            due("end " + tone + " of one sound", x.piece(0, 1, 50, tone, 0), OUTSIDE);
        }
        due("count(0)", x.count(0), 0);
        due("0 to 99", x.piece(0, 2, 0, 99, 0), 0);
        due("99 to 0", x.piece(0, 2, 99, 0, 0), 1);
        due("begin of 0 to 99", x.of(0, 0, 1), 0);
        due("end of 0 to 99", x.of(0, 1, 1), 99);
        due("begin of 99 to 0", x.of(1, 0, 1), 99);
        due("end of 99 to 0", x.of(1, 1, 1), 0);
    }

    private static void voices() {
        sentence("a VOICE (0 .. 3)");
        OneVoice x = new OneVoice();
        due("told()", tell(x, "word 0 is a;line 0 is 0"), 2);
        int[] outside = {MIN, -1, 4, 5, MAX};
        for (int voice : outside) {
            due("piece of " + voice, x.piece(0, 1, 0, 0, voice), OUTSIDE);
            due("said by " + voice, x.said(voice, 0, 1, 0), OUTSIDE);
            due("bit by " + voice, x.bit(voice, 0, 1, 0), OUTSIDE);
            due("jar by " + voice, x.jar(0, 0, voice), OUTSIDE);
            due("wish for " + voice, x.wish(0, voice, 1), OUTSIDE);
            due("change to " + voice, x.change(voice), OUTSIDE);
        }
        for (int voice = 0; voice < 4; voice++) {
            due("jar ahead of a piece", x.jar(0, 0, voice), NONE);
            due("piece of " + voice, x.piece(0, 1, 0, 0, voice), voice);
            due("said by " + voice, x.said(voice, 0, 1, 0), 0);
            due("bit by " + voice, x.bit(voice, 0, 1, 0), 256 * voice + 1);
            due("jar by " + voice, x.jar(0, 0, voice), 0);
            due("change to " + voice, x.change(voice), 6);
            due("wish for " + (3 - voice), x.wish(0, 3 - voice, 1), voice);
            due("voice(0, 0)", x.voice(0, 0), 3 - voice);
            x.change(voice);
        }
    }

    private static void wornAtFirst() {
        sentence("which of its places are WORN (none at first)");
        OneVoice x = new OneVoice();
        x.piece(0x76543210, 8, 0, 0, 0);
        for (int i = 0; i < 8; i++) {
            due("of(0, " + i + ", 2)", x.of(0, i, 2), 0);
        }
        due("lost()", x.lost(), 0);
        due("worn(0, 1)", x.worn(0, 1), 0);
        x.piece(0x10, 2, 0, 0, 0);
        due("nor of one that comes later", x.worn(1, 0), 0);
    }

    private static void toneAtAPlace() {
        sentence("TONE at place i of n: begin, and (i times (end less begin) by (n less 1), cut towards 0) more (n 1: begin).");
        tonesOf(1, 0, 99, 0);
        tonesOf(1, 99, 0, 99);
        tonesOf(2, 0, 99, 0, 99);
        tonesOf(2, 99, 0, 99, 0);
        tonesOf(3, 0, 99, 0, 49, 99);
        tonesOf(3, 99, 0, 99, 50, 0);
        tonesOf(4, 0, 1, 0, 0, 0, 1);
        tonesOf(4, 1, 0, 1, 1, 1, 0);
        tonesOf(4, 0, 2, 0, 0, 1, 2);
        tonesOf(4, 2, 0, 2, 2, 1, 0);
        tonesOf(8, 0, 99, 0, 14, 28, 42, 56, 70, 84, 99);
        tonesOf(8, 99, 0, 99, 85, 71, 57, 43, 29, 15, 0);
        tonesOf(8, 7, 7, 7, 7, 7, 7, 7, 7, 7, 7);
        tonesOf(8, 10, 16, 10, 10, 11, 12, 13, 14, 15, 16);
    }

    private static void tonesOf(int n, int begin, int end, int... tones) {
        OneVoice x = new OneVoice();
        x.piece(0, n, begin, end, 0);
        for (int i = 0; i < n; i++) {
            due("place " + i + " of " + n + ", " + begin + " to " + end, x.of(0, i, 1), tones[i]);
        }
    }

    private static void mended() {
        sentence("MENDED is a WORN place, if a PIECE of the same VOICE and the same row of SOUNDS is not WORN there; else it is LOST.");
        OneVoice x = new OneVoice();
        piece(x, "abc", 0, 0, 0);
        x.worn(0, 5);
        wear(x, 0, 2, 0, 2);
        piece(x, "abc", 99, 50, 0);
        wear(x, 0, 1, 0, 1);
        wear(x, 1, 0, 0, 0);
        x.worn(1, 6);
        wear(x, 0, 1, 0, 2);
        wear(x, 1, 0, 1, 2);
        piece(x, "abc", 1, 1, 0);
        wear(x, 0, 1, 0, 1);
        wear(x, 1, 0, 1, 1);
        x.worn(2, 7);
        wear(x, 0, 1, 0, 2);
        wear(x, 1, 0, 1, 2);
        wear(x, 2, 1, 1, 2);
        x.worn(1, 0);
        wear(x, 0, 1, 0, 1);
        wear(x, 2, 1, 1, 1);
    }

    private static void wear(OneVoice x, int piece, int... kinds) {
        for (int i = 0; i < kinds.length; i++) {
            due("of(" + piece + ", " + i + ", 2)", x.of(piece, i, 2), kinds[i]);
        }
    }

    private static void mendedByTheSameRow() {
        sentence("a PIECE of the same VOICE and the same row of SOUNDS");
        OneVoice x = new OneVoice();
        piece(x, "abcdabcd", 0, 0, 2);
        x.worn(0, 255);
        due("alone", x.lost(), 8);
        piece(x, "abcdabcd", 0, 0, 1);
        piece(x, "abcdabcd", 0, 0, 3);
        due("other voices", x.lost(), 8);
        piece(x, "abcdabc", 0, 0, 2);
        due("a shorter one", x.lost(), 8);
        piece(x, "bbcdabcd", 0, 0, 2);
        piece(x, "abcdabcl", 0, 0, 2);
        due("one sound is another: the first, the last", x.lost(), 8);
        piece(x, "dcbadcba", 0, 0, 2);
        due("turned round", x.lost(), 8);
        piece(x, "abcdabcd", 0, 0, 2);
        due("the same", x.lost(), 0);
        OneVoice y = new OneVoice();
        y.piece(0, 1, 0, 0, 0);
        y.worn(0, 1);
        y.piece(0, 2, 0, 0, 0);
        due("a longer one that begins so", y.lost(), 1);
        y.piece(0x7FFFFFF0, 1, 0, 0, 0);
        due("bits behind are no sounds of the row", y.lost(), 0);
    }

    private static void bitsBehindAPiece() {
        sentence("A PIECE of n SOUNDS (SOUND i sounds >> 4 i & 15; bits behind these do not count): its number.");
        OneVoice x = new OneVoice();
        for (int n = 1; n <= 8; n++) {
            due("piece of " + n, x.piece(0xFEDCBA98, n, 0, 0, 0), n - 1);
            for (int i = 0; i < n; i++) {
                due("sound " + i + " of " + n, x.of(n - 1, i, 0), 8 + i);
            }
        }
        OneVoice y = new OneVoice();
        for (int n = 1; n <= 7; n++) {
            y.piece(-1 << (4 * n), n, 0, 0, 0);
            y.piece(0, n, 9, 9, 0);
            y.worn(2 * n - 2, 1);
            due("the same row of " + n, y.of(2 * n - 2, 0, 2), 1);
        }
    }

    private static void wornBits() {
        sentence("Places of a PIECE that are WORN, by bits: those that were. UNKNOWN; OUTSIDE: bits of no places.");
        OneVoice x = new OneVoice();
        for (int n = 1; n <= 8; n++) {
            x.piece(0, n, 0, 0, 0);
            int all = (1 << n) - 1;
            int[] outside = {all + 1, all + 2, 1 << 30, MAX, MIN, -1};
            due("none were", x.worn(n - 1, all), 0);
            for (int set : outside) {
                due("set " + set + " of " + n + " places", x.worn(n - 1, set), OUTSIDE);
            }
            due("all were", x.worn(n - 1, 1 << (n - 1)), all);
            due("the last was", x.worn(n - 1, 0), 1 << (n - 1));
            due("none were any more", x.worn(n - 1, 0), 0);
            due("of no piece", x.worn(n, 0), UNKNOWN);
        }
        due("worn(-1, 0)", x.worn(-1, 0), UNKNOWN);
        due("worn(MIN, 0)", x.worn(MIN, 0), UNKNOWN);
        due("worn(MAX, 0)", x.worn(MAX, 0), UNKNOWN);
        due("unknown and outside", x.worn(8, -1), UNKNOWN);
    }

    private static void ofPlaces() {
        sentence("Of a place of a PIECE: its SOUND (what 0), TONE (1), 0 not WORN, 1 MENDED, 2 LOST (2). UNKNOWN; OUTSIDE.");
        OneVoice x = new OneVoice();
        piece(x, "b", 3, 3, 0);
        piece(x, "cdefghij", 10, 17, 0);
        due("of(0, 0, 0)", x.of(0, 0, 0), 1);
        due("of(1, 7, 0)", x.of(1, 7, 0), 9);
        due("of(1, 7, 1)", x.of(1, 7, 1), 17);
        int[] pieces = {MIN, -1, 2, 16, MAX};
        for (int piece : pieces) {
            due("piece " + piece, x.of(piece, 0, 0), UNKNOWN);
            due("piece " + piece + ", what 3", x.of(piece, 0, 3), UNKNOWN);
        }
        int[] places = {MIN, -1, 8, 9, 32, MAX};
        for (int place : places) {
            due("place " + place, x.of(1, place, 0), UNKNOWN);
            due("place " + place + ", what 1", x.of(1, place, 1), UNKNOWN);
            due("place " + place + ", what 2", x.of(1, place, 2), UNKNOWN);
            due("place " + place + ", what -1", x.of(1, place, -1), UNKNOWN);
        }
        due("place 1 of one", x.of(0, 1, 0), UNKNOWN);
    }

    private static void ofWhat() {
        sentence("its SOUND (what 0), TONE (1), 0 not WORN, 1 MENDED, 2 LOST (2)");
        OneVoice x = new OneVoice();
        piece(x, "h", 5, 9, 0);
        due("what 0", x.of(0, 0, 0), 7);
        due("what 1", x.of(0, 0, 1), 5);
        due("what 2, not worn", x.of(0, 0, 2), 0);
        x.worn(0, 1);
        due("what 2, lost", x.of(0, 0, 2), 2);
        piece(x, "h", 9, 9, 0);
        due("what 2, mended", x.of(0, 0, 2), 1);
        int[] outside = {MIN, -1, 3, 4, MAX};
        for (int what : outside) {
            due("what " + what, x.of(0, 0, what), OUTSIDE);
        }
    }

    private static void lostOfAll() {
        sentence("How many places of all PIECES are LOST.");
        OneVoice x = new OneVoice();
        due("no pieces", x.lost(), 0);
        for (int i = 0; i < 16; i++) {
            x.piece(0x11111111 * i, 8, 0, 0, i % 4);
            x.worn(i, 255);
            due("all of " + (i + 1) + " pieces", x.lost(), 8 * (i + 1));
        }
        x.worn(15, 127);
        due("but one", x.lost(), 127);
        OneVoice y = new OneVoice();
        for (int i = 0; i < 16; i++) {
            y.piece(0, 1, 0, 0, 0);
            due("worn(i, 1)", y.worn(i, 1), 0);
            due("doubles, all of them worn", y.lost(), i + 1);
        }
        y.worn(15, 0);
        due("one mends fifteen", y.lost(), 0);
    }

    private static void bitsOfOneAtLeast() {
        sentence("A BIT is a part of a PIECE (from a place, so many; 1 at least)");
        OneVoice x = new OneVoice();
        piece(x, "abcdefgh", 0, 0, 0);
        for (int from = 0; from < 8; from++) {
            for (int many = 1; from + many <= 8; many++) {
                String part = "abcdefgh".substring(from, from + many);
                due("one bit for " + part, bit(x, part, -1), 1);
                due("that of " + part, bit(x, part, 0), 16 * from + many);
            }
        }
        due("no bit goes on behind its piece", bit(x, "ha", -1), 2);
        due("nor goes it back", bit(x, "ba", -1), 2);
        due("nor leaves it one out", bit(x, "ac", -1), 2);
    }

    private static void noPlaceLost() {
        sentence("no place of it LOST");
        OneVoice x = new OneVoice();
        piece(x, "abcdefgh", 0, 0, 0);
        x.worn(0, 8);
        due("the lost one", said(x, "d", 0), NONE);
        due("begins with it", said(x, "def", 0), NONE);
        due("ends with it", said(x, "bcd", 0), NONE);
        due("goes over it", said(x, "cde", 0), NONE);
        due("ahead of it", bit(x, "abc", 0), 3);
        due("its end is a cut", said(x, "abc", 0), 5);
        due("behind it", bit(x, "efgh", 0), 16 * 4 + 4);
        due("its begin is a cut", said(x, "efgh", 0), 5);
        due("the two side by side", said(x, "abcefgh", 0), 10);
        x.worn(0, 129);
        due("the first lost", said(x, "ab", 0), NONE);
        due("the last lost", said(x, "gh", 0), NONE);
        due("between them", said(x, "bcdefg", 0), 10);
        x.worn(0, 255);
        due("all lost", said(x, "e", 0), NONE);
        piece(x, "abcdefgh", 0, 0, 0);
        due("mended ones are not lost", bit(x, "abcdefgh", 0), 8);
        due("nor in two ways less", said(x, "abcdefgh", 1), 2);
        x.worn(1, 1);
        due("lost in both", said(x, "a", 0), NONE);
        due("mended in the first", bit(x, "b", 0), 16 + 1);
    }

    private static void cutsAtBeginAndEnd() {
        sentence("It has a CUT at its begin, if that is not the PIECE's, and one at its end likewise.");
        OneVoice x = new OneVoice();
        piece(x, "abc", 7, 7, 0);
        piece(x, "d", 7, 7, 0);
        due("the whole", said(x, "abc", 0), 0);
        due("the begin", said(x, "a", 0), 5);
        due("more of the begin", said(x, "ab", 0), 5);
        due("the end", said(x, "c", 0), 5);
        due("more of the end", said(x, "bc", 0), 5);
        due("neither", said(x, "b", 0), 10);
        due("a piece of one", said(x, "d", 0), 0);
        due("between two", said(x, "dbd", 0), 10);
        due("two cuts where two bits meet", said(x, "ab" + "bc", 0), 10);
        due("none where whole pieces meet", said(x, "abc" + "d" + "abc", 0), 0);
    }

    private static void costOfACut() {
        sentence("CUTS times what a CUT costs (0 .. 99; 5 at first)");
        OneVoice x = new OneVoice();
        piece(x, "cac", 0, 0, 0);
        piece(x, "cbc", 99, 99, 0);
        due("at first", x.count(4), 5);
        due("two cuts", said(x, "a", 0), 10);
        due("told()", tell(x, "cut 0"), 1);
        due("nothing", said(x, "a", 0), 0);
        due("told()", tell(x, "cut 99"), 1);
        due("count(4)", x.count(4), 99);
        due("two of 99", said(x, "a", 0), 198);
        due("the largest of all", said(x, "abababababababab", 0), 16 * 198 + 15 * 99);
        due("in one way", said(x, "abababababababab", 1), 1);
        due("told()", tell(x, "cut 100"), NOT);
        due("count(4)", x.count(4), 99);
    }

    private static void differences() {
        sentence("for each two BITS side by side the difference of TONES at the end of the one and the begin of the other");
        OneVoice x = new OneVoice();
        piece(x, "ab", 0, 99, 0);
        piece(x, "cd", 99, 0, 0);
        due("no two", said(x, "ab", 0), 0);
        due("99 and 99", said(x, "abcd", 0), 0);
        due("0 and 0", said(x, "cdab", 0), 0);
        due("99 and 0", said(x, "abab", 0), 99);
        due("0 and 99", said(x, "cdcd", 0), 99);
        OneVoice y = new OneVoice();
        piece(y, "a", 50, 0, 0);
        piece(y, "b", 51, 0, 0);
        due("one up", said(y, "ab", 0), 1);
        due("one down", said(y, "ba", 0), 1);
        due("each two", said(y, "abababababababab", 0), 15);
        due("the same", said(y, "aaaaaaaaaaaaaaaa", 0), 0);
    }

    private static void allTones() {
        sentence("with a TONE at its begin and at its end (0 .. 99 each)");
        OneVoice x = new OneVoice();
        for (int i = 0; i < 12; i++) {
            piece(x, "bacdefgh", 8 * i, 8 * i + 7, 0);
        }
        piece(x, "bacd", 96, 99, 0);
        due("every tone there is, in one voice", said(x, "b", 1), 13);
        due("twice the same", said(x, "bb", 1), 13);
        due("the lowest", bit(x, "b", 0), 1);
        due("the highest", x.of(12, 3, 1), 99);
        due("the whole with the highest", said(x, "bacd", 0), 0);
        due("a cut and 3 back are less than 99 to 88", said(x, "bacdbacdefgh", 0), 5 + 3);
        due("the highest, then the nearest", said(x, "db", 0), 5 + 3 + 5);
    }

    private static void bitsOfOneVoice() {
        sentence("A row of SOUNDS is SAID by a row of BITS of one VOICE");
        OneVoice x = new OneVoice();
        piece(x, "a", 0, 0, 0);
        piece(x, "b", 0, 0, 1);
        due("one by each of two voices: the first", x.said(0, sounds("ab"), 2, 0), NONE);
        due("the second", x.said(1, sounds("ab"), 2, 0), NONE);
        piece(x, "b", 99, 99, 0);
        due("not the better one of another voice", x.said(0, sounds("ab"), 2, 0), 99);
        due("in one way", x.said(0, sounds("ab"), 2, 1), 1);
        due("by piece 2", x.bit(0, sounds("ab"), 2, 1), 512 + 1);
    }

    private static void ways() {
        sentence("BEST SAID: the least JAR; WAYS: by how many rows of BITS so");
        OneVoice x = new OneVoice();
        piece(x, "aa", 10, 10, 0);
        due("it can be in one way", said(x, "aa", 1), 1);
        due("from either place", said(x, "a", 1), 2);
        due("one cut, ahead or behind", said(x, "aaa", 1), 4);
        due("worse ones do not count", said(x, "aaaa", 1), 1);
        piece(x, "aa", 10, 10, 0);
        due("a double", said(x, "aa", 1), 2);
        due("each of two", said(x, "aaaa", 1), 4);
        OneVoice y = new OneVoice();
        piece(y, "a", 50, 50, 0);
        piece(y, "b", 40, 40, 0);
        piece(y, "b", 60, 60, 0);
        piece(y, "b", 61, 61, 0);
        due("as far below as above", said(y, "ab", 1), 2);
        due("one more is too far", said(y, "ab", 0), 10);
        due("back from each", said(y, "aba", 1), 2);
    }

    private static void waysThatBeginApart() {
        sentence("WAYS: by how many rows of BITS so");
        OneVoice x = new OneVoice();
        piece(x, "a", 10, 10, 0);
        piece(x, "a", 20, 20, 0);
        piece(x, "a", 20, 20, 0);
        piece(x, "a", 90, 90, 0);
        due("all that begin without a jar", said(x, "a", 1), 4);
        due("each goes on with its own tone", said(x, "aa", 1), 1 + 4 + 1);
        piece(x, "ab", 24, 24, 0);
        due("one with a cut is worse", said(x, "a", 1), 4);
        due("there is one way", said(x, "ab", 1), 1);
        due("from the nearest", said(x, "aab", 0), 4);
        due("two are so near", said(x, "aab", 1), 2);
        OneVoice y = new OneVoice();
        for (int i = 0; i < 16; i++) {
            piece(y, "a", i % 2, i % 2, 0);
        }
        due("8 to the 9th of each tone", said(y, "aaaaaaaaa", 1), 2 * 134217728);
        due("8 to the 10th of each, together above", said(y, "aaaaaaaaaa", 1), 2 * 1073741824L % MODULUS);
    }

    private static void waysThatWrap() {
        sentence("modulo 1000000007");
        OneVoice x = new OneVoice();
        for (int i = 0; i < 10; i++) {
            piece(x, "a", 0, 0, 0);
        }
        due("10 to the 9th, just below", said(x, "aaaaaaaaa", 1), 1000000000);
        due("10 to the 10th", said(x, "aaaaaaaaaa", 1), 10000000000L % MODULUS);
        due("10 to the 16th", said(x, "aaaaaaaaaaaaaaaa", 1), 10000000000000000L % MODULUS);
        for (int i = 10; i < 16; i++) {
            piece(x, "a", 0, 0, 0);
        }
        due("2 to the 28th", said(x, "aaaaaaa", 1), 1 << 28);
        due("2 to the 32nd", said(x, "aaaaaaaa", 1), (1L << 32) % MODULUS);
        due("2 to the 60th", said(x, "aaaaaaaaaaaaaaa", 1), (1L << 60) % MODULUS);
        OneVoice y = new OneVoice();
        tell(y, "cut 0");
        // so chosen that the ways are a multiple of the modulus
        int[] parts = {0, 4, 0, 7, 1, 6, 1, 6, 2, 6, 5, 8, 7, 8, 7, 9, 7, 9,
            8, 13, 9, 10, 10, 13, 10, 15, 12, 15, 13, 16, 15, 16};
        String all = "abcdefghijklmnop";
        for (int i = 0; i < parts.length; i += 2) {
            piece(y, all.substring(parts[i], parts[i + 1]), 0, 0, 0);
        }
        due("a multiple of it", said(y, all, 1), 0);
        due("which can be said all the same", said(y, all, 0), 0);
        due("by a first one", bit(y, all, -1), 16);
        due("its begin", bit(y, all, 0), 1);
    }

    private static void firstByPieceFromAndFewest() {
        sentence("the FIRST of these by PIECES and places (BIT by BIT: the least PIECE, then from, then the fewest).");
        OneVoice x = new OneVoice();
        tell(x, "cut 0");
        piece(x, "ba", 0, 0, 0);
        piece(x, "aaa", 0, 0, 0);
        due("the least piece, though from a later place", bit(x, "a", 0), 16 + 1);
        due("bit by bit: then again", bit(x, "aa", 1), 16 + 1);
        OneVoice y = new OneVoice();
        tell(y, "cut 0");
        piece(y, "aab", 0, 0, 0);
        due("then from, though there are more", bit(y, "aab", 0), 1);
        due("then the fewest", bit(y, "aab", -1), 3);
        due("the second", bit(y, "aab", 1), 1);
        due("the third", bit(y, "aab", 2), 32 + 1);
        OneVoice z = new OneVoice();
        piece(z, "aab", 0, 0, 0);
        due("only of the best", bit(z, "aab", 0), 3);
        piece(z, "a", 90, 90, 0);
        piece(z, "a", 0, 0, 0);
        due("the whole one, not piece 1 or 2", bit(z, "aab", 0), 3);
        due("piece 1 by itself", bit(z, "a", 0), 256 + 1);
        due("piece 2 for the tone", bit(z, "aaab", 0), 512 + 1);
        due("and piece 0 behind it", bit(z, "aaab", 1), 3);
    }

    private static void firstByTones() {
        sentence("the FIRST of these by PIECES and places");
        OneVoice x = new OneVoice();
        tell(x, "cut 0");
        piece(x, "cab", 10, 30, 0);
        piece(x, "d", 11, 11, 0);
        piece(x, "d", 19, 19, 0);
        piece(x, "eff", 80, 60, 0);
        piece(x, "d", 79, 79, 0);
        firstIs(x, "cd", 1, 1, 256 + 1);
        firstIs(x, "ad", 1, 16 + 1, 512 + 1);
        firstIs(x, "bd", 11, 32 + 1, 512 + 1);
        firstIs(x, "cabd", 11, 3, 512 + 1);
        firstIs(x, "ed", 1, 768 + 1, 1024 + 1);
        firstIs(x, "effd", 9, 768 + 2, 768 + 16 + 1, 1024 + 1);
        OneVoice y = new OneVoice();
        piece(y, "baaaaaab", 7, 7, 0);
        firstIs(y, "baaaaaabb", 5, 8, 1);
        firstIs(y, "bbaaaaaab", 5, 1, 8);
        piece(y, "c", 7, 7, 0);
        firstIs(y, "cc", 0, 256 + 1, 256 + 1);
        OneVoice z = new OneVoice();
        piece(z, "baaaaaab", 0, 99, 0);
        piece(z, "baaaaaab", 0, 0, 0);
        piece(z, "b", 0, 0, 0);
        firstIs(z, "baaaaaabb", 0, 256 + 8, 512 + 1);
        OneVoice w = new OneVoice();
        piece(w, "aaaaaaab", 0, 99, 0);
        piece(w, "a", 0, 0, 0);
        int[] singles = new int[16];
        Arrays.fill(singles, 256 + 1);
        firstIs(w, "aaaaaaaaaaaaaaaa", 0, singles);
    }

    private static void firstIs(OneVoice x, String row, int jar, int... bits) {
        due("jar of " + row, said(x, row, 0), jar);
        due("bits of " + row, bit(x, row, -1), bits.length);
        for (int i = 0; i < bits.length; i++) {
            due("bit " + i + " of " + row, bit(x, row, i), bits[i]);
        }
        due("behind the bits of " + row, bit(x, row, bits.length), NONE);
    }

    private static void saidOfOneToSixteen() {
        sentence("BEST SAID by a VOICE, of a row of n SOUNDS (1 .. 16;");
        OneVoice x = new OneVoice();
        piece(x, "a", 0, 0, 0);
        int[] outside = {MIN, -16, -1, 0, 17, 18, 32, MAX};
        for (int n : outside) {
            due("said, n " + n, x.said(0, 0, n, 0), OUTSIDE);
            due("ways, n " + n, x.said(0, 0, n, 1), OUTSIDE);
            due("bit, n " + n, x.bit(0, 0, n, 0), OUTSIDE);
        }
        for (int n = 1; n <= 16; n++) {
            due("said, n " + n, x.said(0, 0, n, 0), 0);
            due("ways, n " + n, x.said(0, 0, n, 1), 1);
            due("bits, n " + n, x.bit(0, 0, n, -1), n);
        }
    }

    private static void saidBitsBehind() {
        sentence("SOUND i sounds >> 4 i & 15; bits behind these do not count): the least JAR (what 0), WAYS (1)");
        OneVoice x = new OneVoice();
        piece(x, "a", 0, 0, 0);
        piece(x, "p", 99, 99, 0);
        for (int n = 1; n < 16; n++) {
            long behind = -1L << (4 * n);
            due("said, n " + n, x.said(0, behind, n, 0), 0);
            due("ways, n " + n, x.said(0, behind, n, 1), 1);
            due("bits, n " + n, x.bit(0, behind, n, -1), n);
            due("the last bit, n " + n, x.bit(0, behind, n, n - 1), 1);
            due("one more counts", x.said(0, behind, n + 1, 0), 99);
        }
        due("all bits", x.said(0, -1L, 16, 0), 0);
        due("the last sound alone", x.said(0, 0xFL << 60, 16, 0), 99);
        due("its bit", x.bit(0, 0xFL << 60, 16, 15), 256 + 1);
        due("the sounds behind the 8th", x.said(0, 0xFFFFFFFF00000000L, 16, 0), 99);
        due("the sounds up to it", x.said(0, 0x00000000FFFFFFFFL, 16, 0), 99);
    }

    private static void saidWhat() {
        sentence("the least JAR (what 0), WAYS (1); NONE: it cannot be (WAYS 0). OUTSIDE.");
        OneVoice x = new OneVoice();
        piece(x, "aa", 0, 0, 0);
        due("what 0", x.said(0, 0, 1, 0), 5);
        due("what 1", x.said(0, 0, 1, 1), 2);
        int[] outside = {MIN, -1, 2, 3, MAX};
        for (int what : outside) {
            due("what " + what, x.said(0, 0, 1, what), OUTSIDE);
            due("what " + what + " of what cannot be", x.said(1, 0, 1, what), OUTSIDE);
        }
    }

    private static void saidNone() {
        sentence("NONE: it cannot be (WAYS 0)");
        OneVoice x = new OneVoice();
        piece(x, "ab", 0, 0, 0);
        String[] cannot = {"c", "ca", "ac", "abc", "cab", "acb", "abababababababac", "cbabababababababa".substring(0, 16)};
        for (String row : cannot) {
            due("said " + row, said(x, row, 0), NONE);
            due("ways of " + row, said(x, row, 1), 0);
            due("bits of " + row, bit(x, row, -1), NONE);
            due("the first bit of " + row, bit(x, row, 0), NONE);
        }
        due("a jar of 0 can be", said(x, "ab", 0), 0);
        due("in one way", said(x, "ab", 1), 1);
        due("another still cannot", said(x, "c", 1), 0);
        due("nor can it by a voice without pieces", x.said(3, 0, 1, 1), 0);
        due("which has no bits", x.bit(3, 0, 1, 0), NONE);
    }

    private static void bitNumbers() {
        sentence("how many BITS (i -1), or of the i-th 256 times its PIECE, 16 times from, and how many");
        OneVoice x = new OneVoice();
        for (int i = 0; i < 15; i++) {
            piece(x, "a", 0, 0, 0);
        }
        piece(x, "bcdefghi", 0, 0, 0);
        due("the first piece", bit(x, "a", 0), 1);
        due("the last piece, whole", bit(x, "bcdefghi", 0), 256 * 15 + 8);
        due("the last place of it", bit(x, "i", 0), 256 * 15 + 16 * 7 + 1);
        due("all but the first", bit(x, "cdefghi", 0), 256 * 15 + 16 + 7);
        due("sixteen bits", bit(x, "aaaaaaaaaaaaaaaa", -1), 16);
        due("the sixteenth", bit(x, "aaaaaaaaaaaaaaaa", 15), 1);
        due("two bits", bit(x, "bcdefghibcdefghi", -1), 2);
    }

    private static void bitNone() {
        sentence("NONE: there are not so many, or it cannot be.");
        OneVoice x = new OneVoice();
        piece(x, "a", 0, 0, 0);
        for (int n = 1; n <= 16; n++) {
            due("the last of " + n, x.bit(0, 0, n, n - 1), 1);
            due("one more than " + n, x.bit(0, 0, n, n), NONE);
        }
        due("a 17th", x.bit(0, 0, 16, 17), NONE);
        due("far off", x.bit(0, 0, 16, MAX), NONE);
        due("it cannot be: how many", x.bit(0, 1, 1, -1), NONE);
        due("it cannot be: the first", x.bit(0, 1, 1, 0), NONE);
        due("its begin can, its end cannot", x.bit(0, 0x10, 2, 0), NONE);
        due("it cannot be: far off", x.bit(0, 1, 1, MAX), NONE);
    }

    private static void bitOutside() {
        sentence("NONE: there are not so many, or it cannot be. OUTSIDE.");
        OneVoice x = new OneVoice();
        due("i -2, nothing there", x.bit(0, 0, 1, -2), OUTSIDE);
        piece(x, "a", 0, 0, 0);
        due("i -1", x.bit(0, 0, 1, -1), 1);
        due("i -2", x.bit(0, 0, 1, -2), OUTSIDE);
        due("i MIN", x.bit(0, 0, 1, MIN), OUTSIDE);
        due("voice 1 is none", x.bit(1, 0, 1, 0), NONE);
        due("voice 4 is outside", x.bit(4, 0, 1, 0), OUTSIDE);
    }
}
