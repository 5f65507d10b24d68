/** Each promise by itself: ordinary inputs, the edges that the document names, and wrong inputs. */
public final class PromiseTest extends Check {
    public static void main(String[] args) {
        newObject();
        piece();
        worn();
        of();
        lost();
        said();
        saidWays();
        bit();
        write();
        erase();
        fault();
        faultOfTokens();
        told();
        word();
        line();
        jar();
        call();
        run();
        heard();
        danger();
        dangerAmongHearers();
        muteAndStale();
        tellingAnew();
        speaks();
        voice();
        wish();
        change();
        record();
        crowd();
        understood();
        power();
        count();
        end();
    }

    /** Sounds 0 .. 2 by voice 0, words of known lengths, and lines of them. */
    private static OneVoice platforms(String more) {
        OneVoice x = new OneVoice();
        for (int i = 0; i < 3; i++) {
            x.piece(i, 1, 5, 5, 0);
        }
        due("told()", tell(x, "word 0 is abc;word 1 is ab;word 2 is p;line 0 is 0 1;line 1 is 1;line 2 is 2" + more),
            more.isEmpty() ? 6 : 6 + more.chars().filter(c -> c == ';').count());
        return x;
    }

    private static void newObject() {
        about("1 a new object");
        OneVoice x = new OneVoice();
        int[] first = {0, 0, 0, 0, 5, 0, 0};
        for (int i = 0; i < first.length; i++) {
            due("count(" + i + ")", x.count(i), first[i]);
        }
        due("lost()", x.lost(), 0);
        due("record()", x.record(), 0);
        due("erase()", x.erase(), 0);
        for (int p = 0; p < 6; p++) {
            due("voice(p, 0)", x.voice(p, 0), 0);
            due("voice(p, 1)", x.voice(p, 1), 0);
            due("speaks(p)", x.speaks(p), NONE);
        }
        for (int w = 0; w < 32; w++) {
            due("word(w, -1)", x.word(w, -1), 0);
        }
        for (int s = 0; s < 16; s++) {
            due("crowd(s, 0)", x.crowd(s, 0), 0);
        }
        OneVoice other = new OneVoice();
        x.piece(0, 1, 0, 0, 0);
        due("count(0) of another", other.count(0), 0);
    }

    private static void piece() {
        about("2 piece");
        OneVoice x = new OneVoice();
        due("n 0", x.piece(0, 0, 0, 0, 0), OUTSIDE);
        due("n 9", x.piece(0, 9, 0, 0, 0), OUTSIDE);
        due("begin -1", x.piece(0, 1, -1, 0, 0), OUTSIDE);
        due("begin 100", x.piece(0, 1, 100, 0, 0), OUTSIDE);
        due("end -1", x.piece(0, 1, 0, -1, 0), OUTSIDE);
        due("end 100", x.piece(0, 1, 0, 100, 0), OUTSIDE);
        due("voice -1", x.piece(0, 1, 0, 0, -1), OUTSIDE);
        due("voice 4", x.piece(0, 1, 0, 0, 4), OUTSIDE);
        due("nothing changed", x.count(0), 0);
        due("all bits", x.piece(0xFEDCBA98, 8, 99, 0, 3), 0);
        for (int i = 0; i < 8; i++) {
            due("of(0, i, 0)", x.of(0, i, 0), 8 + i);
        }
        for (int i = 1; i < 16; i++) {
            due("the next", x.piece(-1, 1 + i % 8, 0, 0, 0), i);
        }
        due("a 17th", x.piece(0, 1, 0, 0, 0), FULL);
        due("a 17th that is outside", x.piece(0, 0, 0, 0, 0), OUTSIDE);
        due("count(0)", x.count(0), 16);
    }

    private static void worn() {
        about("3 worn");
        OneVoice x = new OneVoice();
        due("no piece", x.worn(0, 0), UNKNOWN);
        due("no piece, bits of no places", x.worn(0, -1), UNKNOWN);
        x.piece(0x210, 3, 0, 0, 0);
        x.piece(0, 8, 0, 0, 0);
        due("worn(-1, 0)", x.worn(-1, 0), UNKNOWN);
        due("worn(2, 0)", x.worn(2, 0), UNKNOWN);
        due("worn(0, 8)", x.worn(0, 8), OUTSIDE);
        due("worn(0, -1)", x.worn(0, -1), OUTSIDE);
        due("worn(0, MIN)", x.worn(0, Integer.MIN_VALUE), OUTSIDE);
        due("worn(0, 7)", x.worn(0, 7), 0);
        due("worn(0, 2), those that were", x.worn(0, 2), 7);
        due("worn(0, 0), new ones stand for old ones", x.worn(0, 0), 2);
        due("worn(0, 0)", x.worn(0, 0), 0);
        due("worn(1, 255)", x.worn(1, 255), 0);
        due("worn(1, 256)", x.worn(1, 256), OUTSIDE);
        due("worn(1, 255)", x.worn(1, 255), 255);
    }

    private static void of() {
        about("4 of");
        OneVoice x = new OneVoice();
        due("no piece", x.of(0, 0, 0), UNKNOWN);
        x.piece(0xF3, 2, 10, 99, 0);
        due("of(0, 0, 0)", x.of(0, 0, 0), 3);
        due("of(0, 1, 0)", x.of(0, 1, 0), 15);
        due("of(0, 1, 1)", x.of(0, 1, 1), 99);
        due("of(0, 2, 0)", x.of(0, 2, 0), UNKNOWN);
        due("of(0, -1, 0)", x.of(0, -1, 0), UNKNOWN);
        due("of(-1, 0, 0)", x.of(-1, 0, 0), UNKNOWN);
        due("of(1, 0, 0)", x.of(1, 0, 0), UNKNOWN);
        due("of(0, 0, -1)", x.of(0, 0, -1), OUTSIDE);
        due("of(0, 0, 3)", x.of(0, 0, 3), OUTSIDE);
        due("unknown ahead of outside", x.of(0, 2, 3), UNKNOWN);
        x.piece(0, 4, 10, 0, 0);
        int[] falling = {10, 7, 4, 0};
        x.piece(0, 4, 0, 10, 0);
        int[] rising = {0, 3, 6, 10};
        for (int i = 0; i < 4; i++) {
            due("tones that fall, cut towards 0", x.of(1, i, 1), falling[i]);
            due("tones that rise", x.of(2, i, 1), rising[i]);
        }
        x.piece(7, 1, 42, 99, 0);
        due("the tone of one sound", x.of(3, 0, 1), 42);
        x.worn(1, 1);
        due("mended by piece 2", x.of(1, 0, 2), 1);
        due("not worn", x.of(1, 1, 2), 0);
        x.worn(2, 3);
        due("lost", x.of(1, 0, 2), 2);
        due("lost with it", x.of(2, 0, 2), 2);
        due("mended by piece 1", x.of(2, 1, 2), 1);
    }

    private static void lost() {
        about("5 lost");
        OneVoice x = new OneVoice();
        x.piece(0x10, 2, 0, 0, 0);
        x.piece(0x10, 2, 0, 0, 1);
        x.piece(0x010, 3, 0, 0, 0);
        x.worn(0, 3);
        due("a piece of another voice or a longer one mends nothing", x.lost(), 2);
        x.piece(0xF10, 2, 50, 60, 0);
        due("bits behind do not count: it mends", x.lost(), 0);
        due("of(0, 0, 2)", x.of(0, 0, 2), 1);
        x.worn(3, 2);
        due("place 1 of both", x.lost(), 2);
        x.worn(2, 7);
        due("and three more", x.lost(), 5);
        x.worn(0, 0);
        due("not worn any more", x.lost(), 3);
    }

    private static void said() {
        about("6 said");
        OneVoice x = new OneVoice();
        due("voice -1", x.said(-1, 0, 1, 0), OUTSIDE);
        due("voice 4", x.said(4, 0, 1, 0), OUTSIDE);
        due("n 0", x.said(0, 0, 0, 0), OUTSIDE);
        due("n 17", x.said(0, 0, 17, 0), OUTSIDE);
        due("what -1", x.said(0, 0, 1, -1), OUTSIDE);
        due("what 2", x.said(0, 0, 1, 2), OUTSIDE);
        due("nothing there", x.said(0, 0, 1, 0), NONE);
        due("nothing there: ways", x.said(0, 0, 1, 1), 0);
        x.piece(0x210, 3, 10, 30, 0);
        due("whole", x.said(0, 0x210, 3, 0), 0);
        due("bits behind do not count", x.said(0, 0x7F210, 3, 0), 0);
        due("the begin", x.said(0, 0x10, 2, 0), 5);
        due("the end", x.said(0, 0x21, 2, 0), 5);
        due("the middle", x.said(0, 1, 1, 0), 10);
        due("twice", x.said(0, 0x210210, 6, 0), 20);
        due("another voice", x.said(1, 0x210, 3, 0), NONE);
        due("a sound that is not there", x.said(0, 0x3210, 4, 0), NONE);
        due("its ways", x.said(0, 0x3210, 4, 1), 0);
        x.piece(0xFEDCBA98, 8, 0, 0, 2);
        due("16 sounds", x.said(2, 0xFEDCBA98FEDCBA98L, 16, 0), 0);
        x.worn(0, 2);
        due("a lost place is in no bit", x.said(0, 0x210, 3, 0), NONE);
        due("ahead of it", x.said(0, 0, 1, 0), 5);
        x.piece(0x210, 3, 90, 90, 0);
        due("a mended place is in one, with its own tone", x.said(0, 0x210210, 6, 0), 0);
        due("in one way", x.said(0, 0x210210, 6, 1), 1);
        tell(x, "cut 99");
        due("what a cut costs", x.said(0, 1, 1, 0), 198);
        OneVoice y = new OneVoice();
        y.piece(0x21, 2, 0, 99, 0);
        y.piece(0x3, 1, 50, 50, 0);
        due("up and down", y.said(0, 0x21321L, 5, 0), 99);
        OneVoice z = new OneVoice();
        z.piece(0, 8, 0, 99, 3);
        tell(z, "cut 99");
        due("the tones that fit best", z.said(3, 0, 16, 0), 99);
    }

    private static void saidWays() {
        about("6 said, ways");
        OneVoice x = new OneVoice();
        for (int i = 0; i < 16; i++) {
            x.piece(0, 1, 7, 7, 0);
        }
        due("16 to the 2nd", x.said(0, 0, 2, 1), 256);
        due("16 to the 7th", x.said(0, 0, 7, 1), 268435456);
        due("16 to the 8th, modulo", x.said(0, 0, 8, 1), 4294967296L % 1000000007);
        due("16 to the 16th, modulo", x.said(0, 0, 16, 1), 582344008);
        due("jar", x.said(0, 0, 16, 0), 0);
        OneVoice y = new OneVoice();
        y.piece(0x1111, 4, 20, 20, 0);
        due("whole is best", y.said(0, 0x1111, 4, 1), 1);
        due("a cut at two places", y.said(0, 0x11, 2, 1), 2);
        due("a whole one ahead or behind", y.said(0, 0x111111, 6, 1), 4);
        tell(y, "cut 0");
        due("all rows of bits of 4", y.said(0, 0x1111, 4, 1), waysOfFour());
        OneVoice z = new OneVoice();
        z.piece(0, 1, 10, 10, 0);
        z.piece(1, 1, 0, 0, 0);
        z.piece(1, 1, 20, 20, 0);
        z.piece(1, 1, 9, 9, 1);
        due("from above and from below", z.said(0, 0x10, 2, 0), 10);
        due("both", z.said(0, 0x10, 2, 1), 2);
    }

    /** Rows of bits for 4 like sounds of a piece of 4, which has 5 less n bits of n. */
    private static int waysOfFour() {
        int[] ways = {1, 0, 0, 0, 0};
        for (int n = 1; n <= 4; n++) {
            for (int many = 1; many <= n; many++) {
                ways[n] += (5 - many) * ways[n - many];
            }
        }
        return ways[4];
    }

    private static void bit() {
        about("7 bit");
        OneVoice x = new OneVoice();
        due("voice 4", x.bit(4, 0, 1, 0), OUTSIDE);
        due("voice -1", x.bit(-1, 0, 1, 0), OUTSIDE);
        due("n 0", x.bit(0, 0, 0, 0), OUTSIDE);
        due("n 17", x.bit(0, 0, 17, 0), OUTSIDE);
        due("i -2", x.bit(0, 0, 1, -2), OUTSIDE);
        due("it cannot be: how many", x.bit(0, 0, 1, -1), NONE);
        due("it cannot be", x.bit(0, 0, 1, 0), NONE);
        x.piece(0x210, 3, 0, 0, 0);
        x.piece(0x321, 3, 0, 0, 0);
        tell(x, "cut 0");
        due("how many", x.bit(0, 0x3210, 4, -1), 4);
        int[] fewest = {1, 0x11, 0x21, 0x121};
        for (int i = 0; i < 4; i++) {
            due("least piece, then from, then fewest", x.bit(0, 0x3210, 4, i), fewest[i]);
        }
        due("no fifth", x.bit(0, 0x3210, 4, 4), NONE);
        due("nor one far off", x.bit(0, 0x3210, 4, Integer.MAX_VALUE), NONE);
        tell(x, "cut 1");
        due("two at least", x.bit(0, 0x3210, 4, -1), 2);
        due("one cut and two: a whole piece first", x.bit(0, 0x3210, 4, 0), 1);
        due("and a whole one behind", x.bit(0, 0x3210, 4, 1), 0x103);
        OneVoice y = new OneVoice();
        y.piece(0x00000000, 8, 0, 0, 1);
        y.piece(0xF000, 4, 0, 0, 1);
        y.piece(0xF, 1, 0, 0, 1);
        due("whole piece 1", y.bit(1, 0xF000, 4, 0), 0x104);
        y.worn(1, 8);
        due("its end is lost: begin", y.bit(1, 0xF000, 4, 0), 3);
        due("its end is lost: end", y.bit(1, 0xF000, 4, 1), 0x201);
        due("from place 1 of it", y.bit(1, 0xF00, 3, 0), 2);
    }

    private static void write() {
        about("8 write");
        OneVoice x = new OneVoice();
        due("n 0", x.write(0, 0), OUTSIDE);
        due("n 9", x.write(0, 9), OUTSIDE);
        due("n -1", x.write(0, -1), OUTSIDE);
        due("bytes behind do not count", x.write(0x2A2A2A20747563L, 3), 3);
        due("a sign bit", x.write(0xB420202020202020L, 8), 11);
        due("byte 180 is read", x.fault(), 10);
        x.erase();
        for (int i = 1; i <= 24; i++) {
            due("eight more", x.write(0x2020202020202020L, 8), 8 * i);
        }
        due("seven more", x.write(0x20202020202020L, 7), 199);
        due("two are too many", x.write(0x3131L, 2), FULL);
        due("nothing changed", x.count(1), 199);
        due("the 200th", x.write(0x31L, 1), 200);
        due("a 201st", x.write(0x31L, 1), FULL);
        due("outside ahead of full", x.write(0x31L, 0), OUTSIDE);
        due("fault at the last", x.fault(), 199);
    }

    private static void erase() {
        about("9 erase");
        OneVoice x = new OneVoice();
        due("empty", x.erase(), 0);
        put(x, "cut 12");
        due("six", x.erase(), 6);
        due("again", x.erase(), 0);
        due("count(1)", x.count(1), 0);
        put(x, "cut 3");
        due("nothing of what was", x.told(), 1);
        due("count(4)", x.count(4), 3);
    }

    private static void fault() {
        about("10 fault");
        faultAt("", 0);
        faultAt("   ", 3);
        faultAt("cut 5", NONE);
        faultAt("  cut   5  ", NONE);
        faultAt("cut5", NONE);
        faultAt("cut5;cut6", NONE);
        faultAt(" cut 5 ; cut 6 ", NONE);
        faultAt("word1is abc", NONE);
        faultAt("word1isabc", 5);
        faultAt("line1is#1#2", NONE);
        faultAt("line 1 is 1#", NONE);
        faultAt("near0 1", NONE);
        faultAt("near 01", 7);
        faultAt("far 05 4", NONE);
        faultAt("word 31 is abcdefgh", NONE);
        faultAt("word 31 is ijklmnop", NONE);
        faultAt("line 7 is 0 31 # # # # # 01", NONE);
        faultAt("cut 99;cut 00", NONE);
        faultAt(";", 0);
        faultAt("cut 5;", 6);
        faultAt("cut 5;  ", 8);
        faultAt("cut 5;;cut 5", 6);
        faultAt("cut 5 cut 5", 6);
        faultAt("cut", 3);
        faultAt("cut  ", 5);
        faultAt("cuts 5", 0);
        faultAt("cu 5", 0);
        faultAt("wor", 0);
        faultAt("5", 0);
        String ten = "cut 1;cut 1;cut 1;cut 1;cut 1;cut 1;cut 1;cut 1;cut 1;cut 1";
        faultAt(ten, NONE);
        faultAt(ten + "  ", NONE);
        faultAt(ten + " ;", 60);
        faultAt(ten + ";cut 1", 59);
    }

    private static void faultOfTokens() {
        about("10 fault");
        faultAt("cut 100", 4);
        faultAt("cut 007", 4);
        faultAt("cut a", 4);
        faultAt("cut -1", 4);
        faultAt("cut 1 2", 6);
        faultAt("word 32 is a", 5);
        faultAt("word x is a", 5);
        faultAt("word 3", 6);
        faultAt("word 3 a", 7);
        faultAt("word 3 iss a", 7);
        faultAt("word 3 is", 9);
        faultAt("word 3 is ;", 10);
        faultAt("word 3 is 5", 10);
        faultAt("word 3 is abcdefghi", 10);
        faultAt("word 3 is abcq", 10);
        faultAt("word 3 is ab cd", 13);
        faultAt("word 3 is aBc", 11);
        faultAt("word 3 is ab1", 12);
        faultAt("line 8 is 1", 5);
        faultAt("line 1 is", 9);
        faultAt("line 1 is  ", 11);
        faultAt("line 1 is 32", 10);
        faultAt("line 1 is 99", 10);
        faultAt("line 1 is 100", 10);
        faultAt("line 1 is 001", 10);
        faultAt("line 1 is 1 a", 12);
        faultAt("line 1 is ########", NONE);
        faultAt("line 1 is #########", 18);
        faultAt("line 1 is ########1", 18);
        faultAt("line 1 is ######## x", 19);
        faultAt("line 1 is #;", 12);
        faultAt("near 6 1", 5);
        faultAt("near 1 6", 7);
        faultAt("near 1 1", 7);
        faultAt("near 1 01", 7);
        faultAt("near 1", 6);
        faultAt("near 1 2 3", 9);
        faultAt("far 3 3", 6);
        faultAt("far ;", 4);
        faultAt("cut\t5", 3);
        faultAt("cut " + (char) 0 + "5", 4);
        faultAt("Cut 5", 0);
        faultAt("cut 5" + (char) 255, 5);
        faultAt("cut 5." , 5);
        faultAt("cut 5;cut 100;cut", 10);
    }

    private static void told() {
        about("11 told");
        OneVoice x = new OneVoice();
        due("an empty text", x.told(), NOT);
        due("a fault in the second row", tell(x, "cut 7;cut"), NOT);
        due("nothing changed: text", x.count(1), 9);
        due("nothing changed: cut", x.count(4), 5);
        x.erase();
        due("three rows", tell(x, "cut 7;cut 8;word 3 is ab"), 3);
        due("in their order", x.count(4), 8);
        due("empty then", x.count(1), 0);
        due("word(3, -1)", x.word(3, -1), 2);
        due("anew", tell(x, "word 3 is c;word 3 is dcba"), 2);
        due("word(3, -1)", x.word(3, -1), 4);
        due("word(3, 0)", x.word(3, 0), 3);
        due("a shorter line stands for a longer one", tell(x, "line 0 is 3 3 3;line 0 is 3"), 2);
        due("line(0, 0, -1)", x.line(0, 0, -1), 4);
        due("what earlier texts told stays", x.count(4), 8);
        due("told() again", x.told(), NOT);
    }

    private static void word() {
        about("12 word");
        OneVoice x = new OneVoice();
        tell(x, "word 0 is p;word 31 is abcdefgh");
        due("word(-1, 0)", x.word(-1, 0), UNKNOWN);
        due("word(32, 0)", x.word(32, 0), UNKNOWN);
        due("word(32, -2)", x.word(32, -2), UNKNOWN);
        due("word(0, -2)", x.word(0, -2), OUTSIDE);
        due("word(1, -2)", x.word(1, -2), OUTSIDE);
        due("word(0, -1)", x.word(0, -1), 1);
        due("word(0, 0)", x.word(0, 0), 15);
        due("word(0, 1)", x.word(0, 1), NONE);
        due("word(31, 7)", x.word(31, 7), 7);
        due("word(31, 8)", x.word(31, 8), NONE);
        due("word(31, MAX)", x.word(31, Integer.MAX_VALUE), NONE);
        due("word(1, -1)", x.word(1, -1), 0);
        due("word(1, 0)", x.word(1, 0), NONE);
    }

    private static void line() {
        about("13 line");
        OneVoice x = new OneVoice();
        tell(x, "word 0 is abc;word 9 is d;word 19 is ee;word 20 is fff;word 27 is gggg;line 0 is 0;line 7 is # 0 #");
        due("line(-1, 0, 0)", x.line(-1, 0, 0), UNKNOWN);
        due("line(8, 0, 0)", x.line(8, 0, 0), UNKNOWN);
        due("not told", x.line(1, 0, 0), UNKNOWN);
        due("not told, and outside", x.line(1, 100, -2), UNKNOWN);
        due("v -1", x.line(0, -1, 0), OUTSIDE);
        due("v 100", x.line(0, 100, 0), OUTSIDE);
        due("i -2", x.line(0, 0, -2), OUTSIDE);
        due("outside ahead of not", x.line(7, 5, -2), OUTSIDE);
        due("no number in it", x.line(0, 55, -1), 3);
        due("the third", x.line(0, 55, 2), 2);
        due("no fourth", x.line(0, 55, 3), NONE);
        due("not one far off", x.line(0, 55, Integer.MAX_VALUE), NONE);
        due("0", x.line(7, 0, -1), 9);
        due("9", x.line(7, 9, -1), 5);
        due("19", x.line(7, 19, -1), 7);
        due("20", x.line(7, 20, -1), 9);
        due("29", x.line(7, 29, -1), 11);
        due("90", x.line(7, 90, -1), 11);
        due("99", x.line(7, 99, -1), 13);
        due("99, of the nine", x.line(7, 99, 4), 3);
        due("99, the word between", x.line(7, 99, 5), 0);
        due("99, the last", x.line(7, 99, 12), 3);
        due("99, behind", x.line(7, 99, 13), NONE);
        due("21: 1 is not told", x.line(7, 21, -1), NOT);
        due("30: not told", x.line(7, 30, 0), NOT);
        due("10: not told", x.line(7, 10, 0), NOT);
    }

    private static void jar() {
        about("14 jar");
        OneVoice x = new OneVoice();
        x.piece(0x210, 3, 10, 30, 1);
        x.piece(0x3, 1, 99, 99, 1);
        tell(x, "word 0 is abc;word 1 is ab;word 2 is cd;word 5 is e;line 0 is 0 1;line 1 is 0 2 1 #;line 2 is 5;line 3 is 6");
        due("not told", x.jar(4, 0, 0), UNKNOWN);
        due("jar(8, 0, 0)", x.jar(8, 0, 0), UNKNOWN);
        due("jar(-1, 100, 9)", x.jar(-1, 100, 9), UNKNOWN);
        due("v 100", x.jar(0, 100, 0), OUTSIDE);
        due("v -1", x.jar(0, -1, 0), OUTSIDE);
        due("voice 4", x.jar(0, 0, 4), OUTSIDE);
        due("voice -1", x.jar(0, 0, -1), OUTSIDE);
        due("outside ahead of not", x.jar(3, 0, 4), OUTSIDE);
        due("a word not told", x.jar(3, 0, 1), NOT);
        due("each word by itself", x.jar(0, 0, 1), 5);
        due("cut, and 30 to 99", x.jar(1, 0, 1), 5 + 69 + 5);
        due("and a word more", x.jar(1, 1, 1), 5 + 69 + 5 + 5);
        due("a word that cannot be said", x.jar(2, 0, 1), NONE);
        due("another voice", x.jar(0, 0, 0), NONE);
        due("not ahead of none", x.jar(1, 7, 0), NOT);
    }

    private static void call() {
        about("15 call");
        OneVoice x = platforms("");
        due("platform -1", x.call(-1, 0, 0, 0, 1, false), UNKNOWN);
        due("platform 6", x.call(6, 0, 0, 0, 1, false), UNKNOWN);
        due("line -1", x.call(0, -1, 0, 0, 1, false), UNKNOWN);
        due("line 8", x.call(0, 8, 0, 0, 1, false), UNKNOWN);
        due("line not told", x.call(0, 3, 0, 0, 1, false), UNKNOWN);
        due("unknown ahead of outside", x.call(0, 3, 100, 0, 1, false), UNKNOWN);
        due("v -1", x.call(0, 0, -1, 0, 1, false), OUTSIDE);
        due("v 100", x.call(0, 0, 100, 0, 1, false), OUTSIDE);
        due("ready -1", x.call(0, 0, 0, -1, 1, false), OUTSIDE);
        due("ready 2001", x.call(0, 0, 0, 2001, 2002, false), OUTSIDE);
        due("ready MAX", x.call(0, 0, 0, Integer.MAX_VALUE, 3000, false), OUTSIDE);
        due("stale at ready", x.call(0, 0, 0, 7, 7, false), OUTSIDE);
        due("stale 3001", x.call(0, 0, 0, 7, 3001, false), OUTSIDE);
        due("nothing changed", x.count(5), 0);
        due("the last ticks", x.call(5, 2, 99, 2000, 3000, true), 0);
        due("stale at once", x.call(0, 0, 0, 0, 1, false), 1);
        for (int i = 2; i < 24; i++) {
            due("the next", x.call(i % 6, 0, 0, 2000, 2001, false), i);
        }
        due("a 25th", x.call(0, 0, 0, 0, 1, false), FULL);
        due("outside ahead of full", x.call(0, 0, 0, 1, 1, false), OUTSIDE);
        due("unknown ahead of full", x.call(0, 5, 0, 0, 1, false), UNKNOWN);
        due("count(5)", x.count(5), 24);
    }

    private static void run() {
        about("16 run");
        OneVoice x = platforms("");
        due("run(0)", x.run(0), OUTSIDE);
        due("run(-1)", x.run(-1), OUTSIDE);
        due("run(101)", x.run(101), OUTSIDE);
        due("run(MAX)", x.run(Integer.MAX_VALUE), OUTSIDE);
        x.call(0, 1, 0, 1999, 2001, false);
        for (int i = 1; i < 20; i++) {
            due("run(100)", x.run(100), 100 * i);
        }
        due("run(99)", x.run(99), 1999);
        due("waits still", x.heard(0, 0), 0);
        due("run(2)", x.run(2), OUTSIDE);
        due("nothing changed", x.count(6), 1999);
        due("run(1)", x.run(1), 2000);
        due("it begins in the last", x.heard(0, 2), 1999);
        due("no more", x.run(1), OUTSIDE);
    }

    private static void heard() {
        about("17 heard");
        OneVoice x = platforms(";near 0 1");
        due("no call", x.heard(0, 0), UNKNOWN);
        x.call(0, 0, 0, 2, 9, false);
        x.call(1, 1, 0, 0, 9, false);
        x.call(2, 1, 0, 0, 9, false);
        due("heard(-1, 0)", x.heard(-1, 0), UNKNOWN);
        due("heard(3, 3)", x.heard(3, 3), UNKNOWN);
        due("heard(0, 3)", x.heard(0, 3), OUTSIDE);
        due("heard(0, -1)", x.heard(0, -1), OUTSIDE);
        due("waiting", x.heard(0, 0), 0);
        due("no sound", x.heard(0, 1), 0);
        due("no begin", x.heard(0, 2), NONE);
        x.run(1);
        due("not ready", x.heard(0, 0), 0);
        due("spoken", x.heard(1, 0), 1);
        due("one sound", x.heard(1, 1), 1);
        due("both at once, far from each other", x.heard(2, 1), 1);
        x.run(1);
        due("done", x.heard(1, 0), 2);
        due("two sounds", x.heard(1, 1), 2);
        due("begun in 0", x.heard(1, 2), 0);
        x.run(1);
        due("begins as soon as it is ready and still", x.heard(0, 2), 2);
        x.run(3);
        due("spoken over more words", x.heard(0, 0), 1);
        due("four sounds", x.heard(0, 1), 4);
        x.run(1);
        due("done", x.heard(0, 0), 2);
        due("five sounds", x.heard(0, 1), 5);
    }

    private static void danger() {
        about("17 heard, danger");
        OneVoice x = platforms("");
        x.call(0, 0, 0, 0, 90, false);
        x.call(0, 0, 0, 1, 90, true);
        x.call(0, 1, 0, 0, 90, false);
        x.call(0, 1, 0, 0, 90, true);
        x.run(1);
        due("danger first, by numbers", x.heard(3, 0), 1);
        x.run(1);
        due("danger does not cut off danger", x.heard(3, 0), 2);
        x.run(5);
        due("the other danger, whole", x.heard(1, 0), 2);
        due("begun in 2", x.heard(1, 2), 2);
        x.run(1);
        due("then the first", x.heard(0, 2), 7);
        x.call(0, 1, 0, 9, 90, true);
        x.run(1);
        x.run(1);
        due("it ends its word and is cut off", x.heard(0, 0), 3);
        due("three sounds", x.heard(0, 1), 3);
        due("danger waits", x.heard(4, 0), 0);
        x.run(1);
        due("danger begins ahead of one that waited", x.heard(4, 2), 10);
        x.run(2);
        due("that one then", x.heard(2, 2), 12);
        OneVoice y = platforms("");
        y.call(0, 0, 0, 0, 90, false);
        y.run(3);
        y.call(0, 1, 0, 3, 90, true);
        y.run(1);
        due("at a word's begin it goes on", y.heard(0, 0), 1);
        y.run(1);
        due("its last word: done, not cut off", y.heard(0, 0), 2);
        y.run(1);
        due("danger behind it", y.heard(1, 2), 5);
    }

    private static void dangerAmongHearers() {
        about("17 heard, danger among platforms");
        OneVoice x = platforms(";near 0 1;near 1 2");
        x.call(0, 0, 0, 0, 90, false);
        x.call(2, 0, 0, 0, 90, false);
        x.call(3, 0, 0, 0, 90, false);
        x.call(1, 1, 0, 1, 90, true);
        x.call(0, 1, 0, 0, 90, false);
        x.run(3);
        due("cut off at 0", x.heard(0, 0), 3);
        due("cut off at 2", x.heard(1, 0), 3);
        due("3 does not hear it", x.heard(2, 0), 1);
        x.run(2);
        due("danger, done", x.heard(3, 0), 2);
        due("what waited at 0", x.heard(4, 0), 0);
        x.run(1);
        due("begins behind danger", x.heard(4, 2), 5);
        OneVoice y = platforms(";near 0 1");
        y.call(0, 0, 0, 0, 90, false);
        y.run(1);
        due("stop is told once, for good", y.call(1, 1, 0, 1, 2, true), 1);
        y.run(2);
        due("danger grew stale", y.heard(1, 0), 4);
        due("but cut off all the same", y.heard(0, 0), 3);
        OneVoice w = platforms(";near 0 1;near 1 2");
        w.call(1, 1, 0, 1, 90, true);
        w.call(0, 0, 0, 0, 90, false);
        w.call(2, 1, 0, 1, 90, false);
        w.run(2);
        due("danger at 1 waits for 0", w.heard(0, 0), 0);
        due("so 2 waits too, though it does not hear 0", w.heard(2, 0), 0);
        w.run(4);
        due("danger behind the word", w.heard(0, 2), 3);
        due("2 behind danger", w.heard(2, 2), 5);
        OneVoice z = platforms(";near 0 1;near 1 2");
        z.call(0, 0, 0, 0, 90, true);
        z.call(1, 0, 0, 0, 90, true);
        z.call(2, 1, 0, 0, 90, false);
        z.run(1);
        due("danger that waits at 1 keeps 2 still", z.heard(2, 0), 0);
        z.run(11);
        due("until it is done", z.heard(2, 2), 10);
        tell(z, "far 0 1;near 5 3");
        z.call(0, 0, 0, 12, 90, false);
        z.call(1, 0, 0, 12, 90, false);
        z.call(3, 0, 0, 12, 90, false);
        z.call(5, 0, 0, 12, 90, false);
        z.run(1);
        due("0 is far now", z.heard(3, 0), 1);
        due("so is 1", z.heard(4, 0), 1);
        due("3 is near 5", z.heard(5, 0), 1);
        due("so 5 waits", z.heard(6, 0), 0);
    }

    private static void muteAndStale() {
        about("17 heard, mute and stale");
        OneVoice x = platforms(";line 3 is #");
        x.call(0, 2, 0, 0, 90, false);
        x.call(0, 3, 9, 0, 90, true);
        x.call(0, 1, 0, 0, 90, false);
        x.call(0, 2, 0, 0, 90, false);
        x.run(1);
        due("a sound that no piece has", x.heard(0, 0), 5);
        due("a word not told", x.heard(1, 0), 5);
        due("never begun", x.heard(1, 2), NONE);
        due("mute takes no time", x.heard(2, 2), 0);
        due("mute only when it would begin", x.heard(3, 0), 0);
        x.run(2);
        due("now", x.heard(3, 0), 5);
        x.call(0, 1, 0, 3, 4, false);
        x.call(0, 1, 0, 3, 5, false);
        x.call(0, 1, 0, 3, 6, false);
        x.run(3);
        due("spoken in time", x.heard(4, 0), 2);
        due("stale while it waited", x.heard(5, 0), 4);
        due("no sound", x.heard(5, 1), 0);
        due("one tick ahead of stale", x.heard(6, 2), 5);
        x.call(1, 1, 0, 0, 1, false);
        x.run(1);
        due("stale since long", x.heard(7, 0), 4);
        OneVoice y = platforms("");
        y.wish(0, 1, 1);
        y.call(0, 1, 0, 0, 90, false);
        y.call(1, 1, 0, 0, 90, false);
        y.run(1);
        due("a voice without pieces", y.heard(0, 0), 5);
        due("the voice of another platform", y.heard(1, 0), 1);
    }

    private static void tellingAnew() {
        about("17 heard, texts told anew");
        OneVoice x = platforms("");
        x.call(0, 0, 0, 0, 90, false);
        x.call(0, 0, 0, 0, 90, false);
        x.run(1);
        tell(x, "word 0 is p;word 1 is abcabc;line 0 is 1");
        x.worn(0, 1);
        x.change(1);
        x.run(3);
        due("what is spoken has its sounds", x.heard(0, 0), 1);
        x.run(1);
        due("five of them", x.heard(0, 1), 5);
        due("done", x.heard(0, 0), 2);
        x.run(1);
        due("one that waited has the new voice", x.heard(1, 0), 5);
        x.change(0);
        x.worn(0, 0);
        x.call(0, 0, 0, 0, 90, false);
        x.run(6);
        due("and the new words", x.heard(2, 0), 2);
        due("six sounds", x.heard(2, 1), 6);
    }

    private static void speaks() {
        about("18 speaks");
        OneVoice x = platforms(";near 0 1");
        due("speaks(-1)", x.speaks(-1), UNKNOWN);
        due("speaks(6)", x.speaks(6), UNKNOWN);
        x.call(5, 1, 0, 0, 9, false);
        x.call(0, 0, 0, 0, 9, false);
        x.call(1, 0, 0, 0, 9, true);
        due("nobody yet", x.speaks(5), NONE);
        x.run(1);
        due("call 0 at 5", x.speaks(5), 0);
        due("danger at 1", x.speaks(1), 2);
        due("nobody at 0", x.speaks(0), NONE);
        due("nobody at 2", x.speaks(2), NONE);
        x.run(1);
        due("done at 5", x.speaks(5), NONE);
    }

    private static void voice() {
        about("19 voice");
        OneVoice x = new OneVoice();
        due("voice(-1, 0)", x.voice(-1, 0), UNKNOWN);
        due("voice(6, 2)", x.voice(6, 2), UNKNOWN);
        due("voice(5, 2)", x.voice(5, 2), OUTSIDE);
        due("voice(5, -1)", x.voice(5, -1), OUTSIDE);
        x.wish(5, 3, 4);
        due("voice(5, 0)", x.voice(5, 0), 3);
        due("voice(5, 1)", x.voice(5, 1), 4);
        due("voice(4, 0)", x.voice(4, 0), 0);
        due("voice(4, 1)", x.voice(4, 1), 0);
    }

    private static void wish() {
        about("20 wish");
        OneVoice x = new OneVoice();
        due("platform 6", x.wish(6, 4, 0), UNKNOWN);
        due("platform -1", x.wish(-1, 0, 1), UNKNOWN);
        due("voice 4", x.wish(0, 4, 1), OUTSIDE);
        due("voice -1", x.wish(0, -1, 1), OUTSIDE);
        due("n 0", x.wish(0, 1, 0), OUTSIDE);
        due("n 6", x.wish(0, 1, 6), OUTSIDE);
        due("nothing changed", x.voice(0, 0), 0);
        due("wish(0, 2, 5)", x.wish(0, 2, 5), 0);
        due("another stands for it", x.wish(0, 1, 1), 2);
        due("for one change", x.voice(0, 1), 1);
        x.change(3);
        due("kept", x.wish(0, 0, 2), 1);
    }

    private static void change() {
        about("21 change");
        OneVoice x = new OneVoice();
        due("voice 4", x.change(4), OUTSIDE);
        due("voice -1", x.change(-1), OUTSIDE);
        due("all", x.change(3), 6);
        x.wish(1, 2, 1);
        x.wish(2, 1, 5);
        due("not those with a wish", x.change(0), 4);
        due("no wish any more", x.voice(1, 1), 0);
        due("its voice still", x.voice(1, 0), 2);
        due("one that has it by its wish", x.change(1), 6);
        for (int i = 3; i >= 1; i--) {
            due("for as many more", x.voice(2, 1), i);
            due("kept", x.change(2), 5);
        }
        due("the fifth was the last", x.voice(2, 1), 0);
        due("and now all", x.change(2), 6);
    }

    private static void record() {
        about("22 record");
        OneVoice x = new OneVoice();
        tell(x, "word 27 is p;line 0 is 27");
        due("no names: no lines", x.record(), 0);
        tell(x, "word 28 is ab");
        due("none", x.record(), NONE);
        tell(x, "word 0 is a;word 1 is b;line 3 is 0 1;line 2 is 0 1 #;line 1 is 0 1 5");
        due("words of a line stand side by side", x.record(), 8);
        tell(x, "line 6 is 28;line 1 is 28");
        due("the least number", x.record(), 2);
        tell(x, "word 31 is a");
        due("the pauses of a short name", x.record(), NONE);
        tell(x, "word 2 is ca;line 7 is 2");
        due("one line begins with it, another one ends with it", x.record(), 128 + 2);
        tell(x, "word 3 is aba;line 5 is 3");
        due("but then not with b", x.record(), 32 + 2);
        tell(x, "line 0 is 3 1;line 4 is 0");
        due("two of several: the least number", x.record(), 16 + 1);
        OneVoice y = new OneVoice();
        tell(y, "word 28 is abcdefgh;word 29 is ijklmnop;word 30 is acegikmo;word 31 is bdfhjlnp");
        due("36 steps", y.record(), NONE);
        tell(y, "line 0 is 28;line 2 is 29;line 5 is 30;line 7 is 31;line 3 is 28 29 30 31");
        due("all four", y.record(), 1 + 4 + 32 + 128);
        OneVoice z = new OneVoice();
        tell(z, "word 28 is aa;word 0 is a;line 1 is 0;line 2 is 0 0");
        due("a sound beside itself", z.record(), 4);
        OneVoice v = new OneVoice();
        tell(v, "word 28 is ap;word 0 is aba;word 1 is p;line 0 is 0;line 1 is 1");
        due("b a is another step than a p", v.record(), NONE);
        tell(v, "line 2 is 0 1");
        due("a p in one line", v.record(), 4);
    }

    private static void crowd() {
        about("23 crowd");
        OneVoice x = new OneVoice();
        due("spot -1", x.crowd(-1, 0), UNKNOWN);
        due("spot 16", x.crowd(16, 100), UNKNOWN);
        due("v -1", x.crowd(0, -1), OUTSIDE);
        due("v 100", x.crowd(0, 100), OUTSIDE);
        due("crowd(15, 99)", x.crowd(15, 99), 0);
        due("crowd(15, 5)", x.crowd(15, 5), 99);
        due("crowd(14, 5)", x.crowd(14, 5), 0);
        due("crowd(15, 0)", x.crowd(15, 0), 5);
    }

    private static void understood() {
        about("24 understood");
        OneVoice x = new OneVoice();
        due("spot -1", x.understood(-1, 0), UNKNOWN);
        due("spot 16", x.understood(16, 1000), UNKNOWN);
        due("v -1", x.understood(0, -1), OUTSIDE);
        due("v 1000", x.understood(0, 1000), OUTSIDE);
        due("power 10", x.understood(5, 10), 0);
        due("power 11", x.understood(5, 11), 1 << 5);
        due("power 13", x.understood(5, 13), 1 << 5);
        due("power 14", x.understood(5, 14), 7 << 4);
        due("power 999", x.understood(0, 999), 65535);
        x.crowd(5, 1);
        due("a crowd at the spot", x.understood(5, 11), 0);
        due("but not beside it", x.understood(5, 14), 7 << 4);
        x.crowd(6, 99);
        due("a crowd beside it", x.understood(5, 112), 65535 - (1 << 6));
        due("loud enough", x.understood(5, 113), 65535);
    }

    private static void power() {
        about("25 power");
        OneVoice x = new OneVoice();
        due("spot -2", x.power(-2, 0), UNKNOWN);
        due("spot 16", x.power(16, -1), UNKNOWN);
        due("set -1", x.power(0, -1), OUTSIDE);
        due("set 65536", x.power(-1, 65536), OUTSIDE);
        due("no spot", x.power(9, 0), 0);
        due("no spot, of all", x.power(NONE, 0), 0);
        due("itself", x.power(9, 1 << 9), 11);
        due("far off", x.power(0, 32768), 56);
        due("all, from the end", x.power(15, 65535), 56);
        due("all, from 7", x.power(NONE, 65535), 16 * (11 + 24) + 7);
        x.crowd(15, 99);
        due("the crowd", x.power(0, 65535), 155);
        due("near the crowd", x.power(NONE, 65535), 16 * 110 + 15);
        due("not a crowd that is not in the set", x.power(NONE, 1 << 3), 16 * 11 + 3);
        x.crowd(0, 99);
        due("between two crowds, the least", x.power(NONE, 65535), 16 * (110 + 24) + 7);
    }

    private static void count() {
        about("26 count");
        OneVoice x = new OneVoice();
        due("count(-1)", x.count(-1), OUTSIDE);
        due("count(7)", x.count(7), OUTSIDE);
        x.piece(0, 1, 0, 0, 0);
        tell(x, "cut 42;word 0 is a;word 31 is b;word 0 is c;line 7 is 0;line 7 is 1;near 0 1");
        x.call(0, 7, 0, 0, 1, true);
        x.run(17);
        x.write(0, 6);
        int[] counts = {1, 6, 2, 1, 42, 1, 17};
        for (int i = 0; i < counts.length; i++) {
            due("count(" + i + ")", x.count(i), counts[i]);
        }
    }
}
