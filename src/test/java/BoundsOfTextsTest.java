/** Promises 8 to 14 at their bounds: each sentence of the document that names one has a test of its own. */
public final class BoundsOfTextsTest extends Check {
    private static final String TEN = "cut 1;cut 2;cut 3;cut 4;cut 5;cut 6;cut 7;cut 8;cut 9;cut 10";

    public static void main(String[] args) {
        writeOneToEight();
        writeBytes();
        twoHundredBytes();
        erase();
        wordsOfTexts();
        soundsOfWords();
        linesOfTexts();
        partsOfLines();
        wordsAsParts();
        oneToTenRows();
        platformsOfTexts();
        unlikePlatforms();
        costs();
        withoutPoints();
        smallLetters();
        oneOrTwoDigits();
        blanks();
        blanksThatNeedNot();
        firstToken();
        tooSoon();
        faultPlaces();
        whatEarlierTextsTold();
        rowsInTheirOrder();
        toldRows();
        toldNot();
        word();
        numbersInWords();
        wordsOfNumbers();
        canBeSpoken();
        lineLength();
        lineRefused();
        jarOfWords();
        jarRefused();
        end();
    }

    private static void writeOneToEight() {
        sentence("n (1 .. 8) bytes more of THE TEXT");
        OneVoice x = new OneVoice();
        int[] outside = {MIN, -8, -1, 0, 9, 16, 200, MAX};
        for (int n : outside) {
            due("n " + n, x.write(packed("cut 1"), n), OUTSIDE);
        }
        due("count(1)", x.count(1), 0);
        int all = 0;
        for (int n = 1; n <= 8; n++) {
            all += n;
            due("n " + n, x.write(0x2020202020202020L, n), all);
        }
        due("count(1)", x.count(1), 36);
    }

    private static void writeBytes() {
        sentence("byte i being bytes >> 8 i & 255: how many it has.");
        OneVoice x = new OneVoice();
        due("bytes behind do not count", x.write(packed("cut 7;;;"), 5), 5);
        due("fault()", x.fault(), NONE);
        due("eight bytes", x.write(packed(";word 3 "), 8), 13);
        due("to the last of them", x.write(packed("is ponml"), 8), 21);
        due("told()", x.told(), 2);
        for (int i = 0; i < 5; i++) {
            due("word(3, " + i + ")", x.word(3, i), 15 - i);
        }
        due("byte 255 at the end", x.write(0xFF20202020202020L, 8), 8);
        due("is no blank", x.fault(), 7);
        x.erase();
        due("byte 0", x.write(0, 1), 1);
        due("is no blank either", x.fault(), 0);
        x.erase();
        due("byte 160", x.write(160, 1), 1);
        due("is not byte 32", x.fault(), 0);
        x.erase();
        put(x, "cut ");
        due("byte 177", x.write(177, 1), 5);
        due("is not byte 49", x.fault(), 4);
    }

    private static void twoHundredBytes() {
        sentence("THE TEXT is a row of bytes, 200 at most");
        OneVoice x = new OneVoice();
        put(x, " ".repeat(192));
        due("192 and 9", x.write(packed("cut 1"), 9), OUTSIDE);
        due("192 and 7", x.write(packed("  cut 1"), 7), 199);
        for (int n = 2; n <= 8; n++) {
            due("199 and " + n, x.write(packed("23456789"), n), FULL);
        }
        due("none of them was taken", x.count(1), 199);
        due("nor can be read", x.fault(), NONE);
        due("the 200th", x.write(packed("2"), 1), 200);
        for (int n = 1; n <= 8; n++) {
            due("200 and " + n, x.write(packed("34567890"), n), FULL);
        }
        due("outside and full", x.write(packed("3"), 0), OUTSIDE);
        due("outside and full", x.write(packed("3"), 9), OUTSIDE);
        due("count(1)", x.count(1), 200);
        due("the whole is read", x.told(), 1);
        due("to the last byte", x.count(4), 12);
        due("there is room again", x.write(packed("cut 3"), 5), 5);
        put(x, " ".repeat(192));
        due("197 and 3", x.write(0x202020L, 3), 200);
        x.erase();
        put(x, " ".repeat(192));
        due("192 and 8", x.write(0x2020202020202020L, 8), 200);
        due("200 blanks: it ends too soon", x.fault(), 200);
    }

    private static void erase() {
        sentence("THE TEXT is empty: how many bytes it had.");
        OneVoice x = new OneVoice();
        due("none", x.erase(), 0);
        x.write(packed("c"), 1);
        due("one", x.erase(), 1);
        due("none again", x.erase(), 0);
        due("count(1)", x.count(1), 0);
        put(x, "x".repeat(200));
        due("200", x.erase(), 200);
        due("what was is not read", tell(x, "cut 9"), 1);
        due("behind told()", x.erase(), 0);
        due("count(4)", x.count(4), 9);
    }

    private static void wordsOfTexts() {
        sentence("WORDS are 0 .. 31");
        OneVoice x = new OneVoice();
        due("told()", tell(x, "word 0 is a;word 31 is b;word 00 is c;word 09 is d"), 4);
        due("word(0, 0)", x.word(0, 0), 2);
        due("word(9, 0)", x.word(9, 0), 3);
        due("word(31, 0)", x.word(31, 0), 1);
        due("count(2)", x.count(2), 3);
        faultAt("word 32 is a", 5);
        faultAt("word 33 is a", 5);
        faultAt("word 99 is a", 5);
        faultAt("word 031 is a", 5);
        faultAt("word -1 is a", 5);
        faultAt("word # is a", 5);
        faultAt("word is a", 5);
    }

    private static void soundsOfWords() {
        sentence("s a word of 1 to 8 letters a .. p");
        OneVoice x = new OneVoice();
        due("told()", tell(x, "word 0 is a;word 1 is abcdefgh;word 2 is ijklmnop;word 3 is pppppppp"), 4);
        due("one", x.word(0, -1), 1);
        due("eight", x.word(1, -1), 8);
        for (int i = 0; i < 8; i++) {
            due("word(1, " + i + ")", x.word(1, i), i);
            due("word(2, " + i + ")", x.word(2, i), 8 + i);
            due("word(3, " + i + ")", x.word(3, i), 15);
        }
        faultAt("word 0 is abcdefghi", 10);
        faultAt("word 0 is aaaaaaaaaaaaaaaaaaaaaaaaaaaaaaaaaaaaaaaaaaaaaaaaaa", 10);
        faultAt("word 0 is ;", 10);
        faultAt("word 0 is", 9);
        faultAt("word 0 is q", 10);
        faultAt("word 0 is qa", 10);
        faultAt("word 0 is aaaaaaaq", 10);
        faultAt("word 0 is z", 10);
        faultAt("word 0 is is", 10);
        faultAt("word 0 is far", 10);
        faultAt("word 0 is line", NONE);
    }

    private static void linesOfTexts() {
        sentence("LINES are 0 .. 7");
        OneVoice x = new OneVoice();
        for (int i = 0; i < 8; i++) {
            due("not told yet", x.line(i, 0, -1), UNKNOWN);
        }
        due("told()", tell(x, "word 0 is a;line 0 is 0;line 7 is 0 0;line 03 is 0 0 0"), 4);
        due("line(0, 0, -1)", x.line(0, 0, -1), 1);
        due("line(3, 0, -1)", x.line(3, 0, -1), 3);
        due("line(7, 0, -1)", x.line(7, 0, -1), 2);
        due("count(3)", x.count(3), 3);
        faultAt("line 8 is 0", 5);
        faultAt("line 9 is 0", 5);
        faultAt("line 10 is 0", 5);
        faultAt("line 007 is 0", 5);
        faultAt("line # is 0", 5);
        faultAt("line a is 0", 5);
    }

    private static void partsOfLines() {
        sentence("line L is P P .. (1 to 8 of them: a WORD's number, or a hash sign (35) for NUMBER).");
        OneVoice x = new OneVoice();
        due("told()", tell(x, "word 0 is a;word 1 is b;line 0 is 1;line 1 is #;line 2 is 0 # 0 # 0 # 0 1"), 5);
        due("one part", x.line(0, 1, -1), 1);
        due("one number", x.line(1, 1, -1), 1);
        due("eight parts", x.line(2, 1, -1), 8);
        due("the eighth", x.line(2, 0, 7), 1);
        due("told()", tell(x, "line 2 is 01"), 1);
        due("fewer stand for more", x.line(2, 0, -1), 1);
        faultAt("line 0 is 1 2 3 4 5 6 7 8", NONE);
        faultAt("line 0 is 1 2 3 4 5 6 7 8;cut 1", NONE);
        faultAt("line 0 is 1 2 3 4 5 6 7 8 9", 26);
        faultAt("line 0 is 1 2 3 4 5 6 7 8 #", 26);
        faultAt("line 0 is 1 2 3 4 5 6 7 8 99", 26);
        faultAt("line 0 is ########", NONE);
        faultAt("line 0 is #########", 18);
        faultAt("line 0 is", 9);
        faultAt("line 0 is ;", 10);
        faultAt("line 0 is \"", 10);
        faultAt("line 0 is $", 10);
        faultAt("line 0 is 1 a", 12);
        faultAt("line 0 is 1 is", 12);
    }

    private static void wordsAsParts() {
        sentence("each of 1 to 8 PARTS: a WORD, or NUMBER");
        OneVoice x = new OneVoice();
        due("told()", tell(x, "word 0 is a;word 31 is b;line 0 is 31 0;line 1 is 00"), 4);
        due("word 31", x.line(0, 0, 0), 1);
        due("word 0", x.line(0, 0, 1), 0);
        due("word 0 of two digits", x.line(1, 0, 0), 0);
        faultAt("line 0 is 32", 10);
        faultAt("line 0 is 0 32", 12);
        faultAt("line 0 is 0 99", 12);
        faultAt("line 0 is 0 100", 12);
        faultAt("line 0 is 0 031", 12);
        faultAt("line 0 is 30", NONE);
    }

    private static void oneToTenRows() {
        sentence("ROWS with ; (59) between, 1 to 10 (behind the 10th no ; can stand)");
        due("its length", TEN.length(), 60);
        faultAt("cut 1", NONE);
        faultAt(TEN, NONE);
        faultAt(TEN + ";", 60);
        faultAt(TEN + " ;", 61);
        faultAt(TEN + ";cut 1", 60);
        faultAt(TEN + ";x", 60);
        faultAt(TEN + "   ", NONE);
        faultAt(TEN + ":", 60);
        faultAt("cut 1:cut 2", 5);
        faultAt("cut 1<cut 2", 5);
        faultAt("cut 1 cut 2", 6);
        faultAt(";cut 1", 0);
        faultAt("cut 1;;cut 1", 6);
        faultAt("cut 1;", 6);
        faultAt("", 0);
        OneVoice x = new OneVoice();
        due("ten", tell(x, TEN), 10);
        due("the tenth is done", x.count(4), 10);
        due("one", tell(x, "cut 1"), 1);
        due("it is done", x.count(4), 1);
        String nine = TEN.substring(0, 53);
        due("nine and a ;", tell(x, nine + ";"), NOT);
        due("comes too soon", x.fault(), 54);
    }

    private static void platformsOfTexts() {
        sentence("PLATFORMS are 0 .. 5");
        faultAt("near 0 5", NONE);
        faultAt("near 5 0", NONE);
        faultAt("far 05 00", NONE);
        faultAt("near 6 0", 5);
        faultAt("near 0 6", 7);
        faultAt("far 6 0", 4);
        faultAt("far 0 6", 6);
        faultAt("near 0 10", 7);
        faultAt("near 000 1", 5);
        faultAt("near a 1", 5);
        faultAt("near 0", 6);
        faultAt("near 0;", 6);
        faultAt("near 0 1 2", 9);
        OneVoice x = new OneVoice();
        int[] unknown = {MIN, -1, 6, 7, MAX};
        tell(x, "word 0 is a;line 0 is 0");
        for (int platform : unknown) {
            due("speaks at " + platform, x.speaks(platform), UNKNOWN);
            due("voice of " + platform, x.voice(platform, 0), UNKNOWN);
            due("wish at " + platform, x.wish(platform, 0, 1), UNKNOWN);
            due("call at " + platform, x.call(platform, 0, 0, 0, 1, false), UNKNOWN);
        }
        for (int platform = 0; platform < 6; platform++) {
            due("speaks at " + platform, x.speaks(platform), NONE);
            due("voice of " + platform, x.voice(platform, 0), 0);
            due("wish at " + platform, x.wish(platform, 0, 1), 0);
            due("call at " + platform, x.call(platform, 0, 0, 0, 1, false), platform);
        }
    }

    private static void unlikePlatforms() {
        sentence("A, B unlike PLATFORMS: they HEAR each other, or not");
        for (int i = 0; i < 6; i++) {
            faultAt("near " + i + " " + i, 7);
            faultAt("far " + i + " " + i, 6);
            faultAt("near " + i + " 0" + i, 7);
            faultAt("far 0" + i + " " + i, 7);
        }
        faultAt("near 0 1", NONE);
        faultAt("far 1 0", NONE);
    }

    private static void costs() {
        sentence("N 0 .. 99");
        faultAt("cut 0", NONE);
        faultAt("cut 99", NONE);
        faultAt("cut 00", NONE);
        faultAt("cut 100", 4);
        faultAt("cut 000", 4);
        faultAt("cut 099", 4);
        faultAt("cut -1", 4);
        faultAt("cut #", 4);
        faultAt("cut", 3);
        faultAt("cut 1 2", 6);
        OneVoice x = new OneVoice();
        due("told()", tell(x, "cut 0"), 1);
        due("count(4)", x.count(4), 0);
        due("told()", tell(x, "cut 99"), 1);
        due("count(4)", x.count(4), 99);
        due("told()", tell(x, "cut 09"), 1);
        due("count(4)", x.count(4), 9);
    }

    private static void withoutPoints() {
        sentence("(As written here, without points;");
        faultAt("word 0 is a.", 11);
        faultAt("line 0 is 1.", 11);
        faultAt("line 0 is # .", 12);
        faultAt("cut 5.", 5);
        faultAt("near 0 1.", 8);
        faultAt("far 0 1.", 7);
        faultAt("cut 5.;cut 5", 5);
        faultAt(".", 0);
    }

    private static void smallLetters() {
        sentence("small letters a .. z");
        // a row of letters is one token up to z, and ends ahead of the bytes beside a .. z
        faultAt("cutz 5", 0);
        faultAt("cuta 5", 0);
        faultAt("cut{5", 3);
        faultAt("cut`5", 3);
        faultAt("word 0 is z{", 10);
        faultAt("word 0 is a{", 11);
        faultAt("word 0 is a`", 11);
        faultAt("Cut 5", 0);
        faultAt("cUt 5", 0);
        faultAt("CUT 5", 0);
        faultAt("word 0 is aA", 11);
        faultAt("cu t 5", 0);
        faultAt("words 0 is a", 0);
        faultAt("wor 0 is a", 0);
        faultAt("word 0 i a", 7);
        faultAt("word 0 iss a", 7);
        faultAt("nearer 0 1", 0);
        faultAt("fa 0 1", 0);
        faultAt("lines 0 is 1", 0);
        String[] kinds = {"word 0 is a", "line 0 is 1", "cut 5", "near 0 1", "far 0 1"};
        for (String kind : kinds) {
            faultAt(kind, NONE);
            for (int i = 0; kind.charAt(i) != ' '; i++) {
                char other = kind.charAt(i) == 'b' ? 'd' : 'b';
                faultAt(kind.substring(0, i) + other + kind.substring(i + 1), 0);
            }
        }
        faultAt("word 0 as a", 7);
        faultAt("word 0 it a", 7);
        faultAt("line 0 as 1", 7);
    }

    private static void oneOrTwoDigits() {
        sentence("numbers of 1 or 2 digits");
        faultAt("cut 0", NONE);
        faultAt("cut 9", NONE);
        faultAt("cut 90", NONE);
        faultAt("cut 009", 4);
        faultAt("cut 0000000000000000000000000000000000005", 4);
        faultAt("cut 99999999999999999999999999999999999999", 4);
        faultAt("cut 4294967297", 4);
        faultAt("cut 1/", 5);
        faultAt("cut 1:", 5);
        faultAt("cut /", 4);
        faultAt("cut :", 4);
        faultAt("cut 1 1", 6);
        faultAt("word 001 is a", 5);
        faultAt("word 1 is a", NONE);
        faultAt("line 0 is 12", NONE);
        faultAt("line 0 is 123", 10);
    }

    private static void blanks() {
        sentence("blanks (32) may stand ahead of, between, behind TOKENS");
        faultAt(" cut 5", NONE);
        faultAt("     cut     5     ", NONE);
        faultAt(" cut 5 ; cut 6 ", NONE);
        faultAt("  word  0  is  abc  ;  line  0  is  #  0  ;  near  0  1  ", NONE);
        faultAt("cut" + (char) 31 + "5", 3);
        faultAt("cut!5", 3);
        faultAt("cut\t5", 3);
        faultAt("cut\n5", 3);
        faultAt("cut 5" + (char) 0, 5);
        faultAt("cut 5 " + (char) 160, 6);
        faultAt(" ".repeat(195) + "cut 5", NONE);
        faultAt("cut 5" + " ".repeat(195), NONE);
        faultAt("cut" + " ".repeat(196) + "5", NONE);
        faultAt("c ut 5", 0);
        faultAt("cut 1 0", 6);
        faultAt("word 0 is a b", 12);
    }

    private static void blanksThatNeedNot() {
        sentence("and need not where a TOKEN ends without.)");
        faultAt("cut5;cut6", NONE);
        faultAt("word0is a", NONE);
        faultAt("word0isa", 5);
        faultAt("word 0 isa", 7);
        faultAt("wordis", 0);
        faultAt("line0is1", NONE);
        faultAt("line0is#1#2#", NONE);
        faultAt("line0is1#;cut5", NONE);
        faultAt("line0is12", NONE);
        faultAt("near0 1", NONE);
        faultAt("near01", 6);
        faultAt("near12", 4);
        faultAt("near1 2;far2 1;cut0", NONE);
        OneVoice x = new OneVoice();
        due("told()", tell(x, "word0is ab;word12is c;line0is12#0"), 3);
        due("12, then the number, then 0", x.line(0, 0, -1), 5);
        due("12", x.line(0, 0, 0), 2);
    }

    private static void firstToken() {
        sentence("A FAULT is at the first TOKEN (a row of small letters, a row of digits, any other byte) that cannot stand there (a number out of its bounds, of more digits, a letter beyond p, a ninth PART, also)");
        faultAt("cut 100;cut 100", 4);
        faultAt("cut 1;cut 100;word 99 is q", 10);
        faultAt("cut 1;wrd 0 is q", 6);
        faultAt("word 0 is abq", 10);
        faultAt("word 0 is 5", 10);
        faultAt("word 0 5 a", 7);
        faultAt("word 0 a", 7);
        faultAt("word 32 ;", 5);
        faultAt("near 6 6", 5);
        faultAt("near 1 1 1", 7);
        faultAt("line 8 is #########", 5);
        faultAt("line 0 is ######### 99", 18);
        faultAt("5", 0);
        faultAt("##", 0);
        faultAt("cut ##", 4);
        faultAt("cut 5##", 5);
        faultAt("cut 5 abc", 6);
        faultAt("is", 0);
        faultAt("  is", 2);
    }

    private static void tooSoon() {
        sentence("or at the end, if it comes too soon");
        String[] begins = {"word", "word 0", "word 0 is", "line", "line 0", "line 0 is", "cut", "near", "near 0", "far",
            "far 0", "cut 5;", "cut 5;cut", "word 0 is a;", ""};
        for (String begin : begins) {
            faultAt(begin, begin.length());
            faultAt(begin + "  ", begin.length() + 2);
        }
        faultAt("wor", 0);
        faultAt("word 0 i", 7);
        faultAt("word 0 is a", NONE);
        faultAt("line 0 is 1", NONE);
    }

    private static void faultPlaces() {
        sentence("The place of the FAULT (the byte with which the TOKEN begins, or the length); NONE.");
        OneVoice x = new OneVoice();
        due("an empty text", x.fault(), 0);
        put(x, "cut");
        due("the length", x.fault(), 3);
        put(x, " ");
        due("the length, with its blanks", x.fault(), 4);
        put(x, "5");
        due("none", x.fault(), NONE);
        due("asked again", x.fault(), NONE);
        put(x, "55");
        due("the begin of 555", x.fault(), 4);
        due("count(1)", x.count(1), 7);
        x.erase();
        due("empty again", x.fault(), 0);
        put(x, " ".repeat(199) + "x");
        due("the last byte", x.fault(), 199);
        x.erase();
        put(x, " ".repeat(197) + "cut");
        due("the end of a full text", x.fault(), 200);
    }

    private static void whatEarlierTextsTold() {
        sentence("what earlier texts told stays, where nothing else is told");
        OneVoice x = new OneVoice();
        due("told()", tell(x, "word 0 is abc;word 1 is p;line 0 is 0;line 1 is 1;cut 9"), 5);
        due("told()", tell(x, "word 1 is b;line 1 is 0 1"), 2);
        due("word 0", x.word(0, -1), 3);
        due("word 1", x.word(1, 0), 1);
        due("line 0", x.line(0, 0, -1), 3);
        due("line 1", x.line(1, 0, -1), 4);
        due("cut", x.count(4), 9);
        due("words", x.count(2), 2);
        due("lines", x.count(3), 2);
        due("told()", tell(x, "word 0 is p"), 1);
        due("a shorter word has no more of the longer", x.word(0, 1), NONE);
        due("in a line that was told before", x.line(0, 0, -1), 1);
    }

    private static void rowsInTheirOrder() {
        sentence("ROWS are done in their order.");
        OneVoice x = new OneVoice();
        due("told()", tell(x, "cut 1;cut 2;word 0 is a;word 0 is bb;line 0 is 0;line 0 is 0 0"), 6);
        due("cut", x.count(4), 2);
        due("word", x.word(0, -1), 2);
        due("line", x.line(0, 0, -1), 4);
        OneVoice y = new OneVoice();
        piece(y, "a", 0, 0, 0);
        due("told()", tell(y, "word 0 is aa;line 0 is 0;near 0 1;far 1 0;far 2 3;near 3 2"), 6);
        for (int platform = 0; platform < 4; platform++) {
            y.call(platform, 0, 0, 0, 9, false);
        }
        y.run(1);
        due("0 and 1 are far", y.speaks(1), 1);
        due("2 and 3 are near", y.speaks(3), NONE);
    }

    private static void toldRows() {
        sentence("THE TEXT's ROWS are done, and it is empty then: how many there were.");
        OneVoice x = new OneVoice();
        due("one", tell(x, "cut 3"), 1);
        due("count(1)", x.count(1), 0);
        due("it is empty", x.fault(), 0);
        due("ten", tell(x, TEN), 10);
        due("count(1)", x.count(1), 0);
        due("erase()", x.erase(), 0);
        due("not done again", tell(x, "word 0 is a"), 1);
        due("count(4)", x.count(4), 10);
    }

    private static void toldNot() {
        sentence("NOT: it has a FAULT.");
        OneVoice x = new OneVoice();
        due("an empty text", x.told(), NOT);
        due("blanks alone", tell(x, "   "), NOT);
        due("they stay", x.erase(), 3);
        due("a fault in the last row", tell(x, "cut 7;word 0 is a;line 0 is 0;near 0 1;near 0 0"), NOT);
        due("no row is done: cut", x.count(4), 5);
        due("no row is done: words", x.count(2), 0);
        due("no row is done: lines", x.count(3), 0);
        due("the text stays", x.count(1), 47);
        due("with its fault", x.fault(), 46);
        due("told() again", x.told(), NOT);
        due("erase()", x.erase(), 47);
        due("eleven rows", tell(x, TEN + ";cut 1"), NOT);
        due("no row is done", x.count(4), 5);
    }

    private static void word() {
        sentence("How many SOUNDS a WORD has (i -1), or SOUND i; NONE: there are not so many (0: it is not told). UNKNOWN; OUTSIDE: i below -1.");
        OneVoice x = new OneVoice();
        due("not told", x.word(31, -1), 0);
        due("no sound of it", x.word(31, 0), NONE);
        due("told()", tell(x, "word 0 is p;word 31 is hgfedcba"), 2);
        due("word(0, -1)", x.word(0, -1), 1);
        due("word(0, 0)", x.word(0, 0), 15);
        due("word(0, 1)", x.word(0, 1), NONE);
        due("word(31, -1)", x.word(31, -1), 8);
        for (int i = 0; i < 8; i++) {
            due("word(31, " + i + ")", x.word(31, i), 7 - i);
        }
        due("word(31, 8)", x.word(31, 8), NONE);
        due("word(31, 16)", x.word(31, 16), NONE);
        due("word(31, MAX)", x.word(31, MAX), NONE);
        int[] unknown = {MIN, -1, 32, 33, MAX};
        for (int word : unknown) {
            due("word " + word, x.word(word, -1), UNKNOWN);
            due("word " + word + ", sound 0", x.word(word, 0), UNKNOWN);
            due("word " + word + ", sound -2", x.word(word, -2), UNKNOWN);
        }
        due("word(0, -2)", x.word(0, -2), OUTSIDE);
        due("word(0, MIN)", x.word(0, MIN), OUTSIDE);
        due("word(1, -2), not told", x.word(1, -2), OUTSIDE);
    }

    /** Words 0 .. 27, each of two sounds that no other has, and line 0, a number. */
    private static OneVoice numberWords() {
        OneVoice x = new OneVoice();
        for (int from = 0; from < 28; from += 7) {
            StringBuilder rows = new StringBuilder();
            for (int word = from; word < from + 7; word++) {
                rows.append("word ").append(word).append(" is ");
                rows.append((char) ('a' + word / 16)).append((char) ('a' + word % 16)).append(';');
            }
            due("told()", tell(x, rows + "line 0 is #"), 8);
        }
        return x;
    }

    private static void spelled(OneVoice x, int v, int... words) {
        due("length of " + v, x.line(0, v, -1), 2 * words.length);
        for (int i = 0; i < words.length; i++) {
            int told = 16 * x.line(0, v, 2 * i) + x.line(0, v, 2 * i + 1);
            due("word " + i + " of " + v, told, words[i]);
        }
        due("behind " + v, x.line(0, v, 2 * words.length), NONE);
    }

    private static void numbersInWords() {
        sentence("NUMBER: v below 20: the WORD v; else the WORD 18 and v by 10, cut (20 .. 27), and, if v is no ten, the WORD of what is over (1 .. 9).");
        OneVoice x = numberWords();
        for (int v = 0; v < 20; v++) {
            spelled(x, v, v);
        }
        spelled(x, 20, 20);
        spelled(x, 21, 20, 1);
        spelled(x, 29, 20, 9);
        spelled(x, 30, 21);
        spelled(x, 31, 21, 1);
        spelled(x, 89, 26, 9);
        spelled(x, 90, 27);
        spelled(x, 91, 27, 1);
        spelled(x, 99, 27, 9);
        OneVoice y = numberWords();
        for (int ten = 4; ten < 9; ten++) {
            spelled(y, 10 * ten - 1, 17 + ten, 9);
            spelled(y, 10 * ten, 18 + ten);
            spelled(y, 10 * ten + 5, 18 + ten, 5);
        }
        sentence("A LINE with a number v (0 .. 99)");
        int[] outside = {MIN, -1, 100, 101, MAX};
        for (int v : outside) {
            due("line with " + v, y.line(0, v, -1), OUTSIDE);
            due("jar with " + v, y.jar(0, v, 0), OUTSIDE);
            due("call with " + v, y.call(0, 0, v, 0, 1, false), OUTSIDE);
        }
        due("call with 0", y.call(0, 0, 0, 0, 1, false), 0);
        due("call with 99", y.call(0, 0, 99, 0, 1, false), 1);
    }

    private static void wordsOfNumbers() {
        sentence("A LINE with a number v (0 .. 99) is the WORDS of its PARTS");
        OneVoice x = new OneVoice();
        due("told()", tell(x, "word 0 is a;word 9 is b;word 27 is c;line 0 is 0 0;line 1 is # 0 #"), 5);
        due("no number in it: v 0", x.line(0, 0, -1), 2);
        due("no number in it: v 99", x.line(0, 99, -1), 2);
        due("no number in it: v 50", x.line(0, 50, 1), 0);
        due("twice the number", x.line(1, 99, -1), 5);
        int[] due = {2, 1, 0, 2, 1, NONE};
        for (int i = 0; i < due.length; i++) {
            due("sound " + i, x.line(1, 99, i), due[i]);
        }
    }

    private static void canBeSpoken() {
        sentence("It CAN be spoken, if all these WORDS are told");
        OneVoice x = new OneVoice();
        due("told()", tell(x, "line 0 is 0;line 1 is 0 0 0 0 0 0 0 1;line 2 is #"), 3);
        due("none is told", x.line(0, 0, -1), NOT);
        due("told()", tell(x, "word 0 is a"), 1);
        due("the one", x.line(0, 0, -1), 1);
        due("the last of eight is not", x.line(1, 0, -1), NOT);
        due("told()", tell(x, "word 1 is b;word 20 is c;word 19 is d"), 3);
        due("all eight", x.line(1, 0, -1), 8);
        int[] can = {0, 1, 19, 20, 21};
        for (int v : can) {
            due(v + " can", x.line(2, v, 0) == NOT ? 0 : 1, 1);
        }
        int[] cannot = {2, 9, 10, 18, 22, 29, 30, 31, 99};
        for (int v : cannot) {
            due(v + " cannot", x.line(2, v, 0), NOT);
        }
    }

    private static void lineLength() {
        sentence("LENGTH of a LINE with a number (i -1), or SOUND i; NONE: there are not so many; NOT: it CANNOT be spoken.");
        OneVoice x = new OneVoice();
        due("told()", tell(x, "word 0 is a;word 9 is bcdefghi;word 27 is ijklmnop;line 7 is ########;line 0 is 0"), 5);
        due("the shortest", x.line(0, 0, -1), 1);
        due("its sound", x.line(0, 0, 0), 0);
        due("behind it", x.line(0, 0, 1), NONE);
        due("the longest", x.line(7, 99, -1), 128);
        due("its first", x.line(7, 99, 0), 8);
        due("the last of its first word", x.line(7, 99, 7), 15);
        due("the first of its second", x.line(7, 99, 8), 1);
        due("its last", x.line(7, 99, 127), 8);
        due("behind it", x.line(7, 99, 128), NONE);
        due("far behind it", x.line(7, 99, MAX), NONE);
        due("what cannot be spoken has no length", x.line(7, 98, -1), NOT);
        due("no sound", x.line(7, 98, 0), NOT);
        due("nor sounds far off", x.line(7, 98, MAX), NOT);
    }

    private static void lineRefused() {
        sentence("UNKNOWN: it is not told; OUTSIDE.");
        OneVoice x = new OneVoice();
        due("none is told", x.line(0, 0, -1), UNKNOWN);
        due("told()", tell(x, "word 0 is a;line 0 is 0;line 6 is 5"), 3);
        int[] unknown = {MIN, -1, 1, 5, 7, 8, 9, MAX};
        for (int line : unknown) {
            due("line " + line, x.line(line, 0, -1), UNKNOWN);
            due("line " + line + ", v 100", x.line(line, 100, -1), UNKNOWN);
            due("line " + line + ", i -2", x.line(line, 0, -2), UNKNOWN);
        }
        due("i -2", x.line(0, 0, -2), OUTSIDE);
        due("i MIN", x.line(0, 0, MIN), OUTSIDE);
        due("i -2 of what cannot be spoken", x.line(6, 0, -2), OUTSIDE);
        due("v 100 of what cannot be spoken", x.line(6, 100, -1), OUTSIDE);
        due("v -1 without a number in it", x.line(0, -1, -1), OUTSIDE);
        due("what cannot be spoken", x.line(6, 0, -1), NOT);
    }

    private static void jarOfWords() {
        sentence("those of its WORDS, each by itself, together; NONE: one cannot be SAID; NOT: it CANNOT be spoken.");
        OneVoice x = new OneVoice();
        piece(x, "ab", 0, 99, 0);
        due("told()", tell(x, "word 0 is ab;word 1 is a;word 2 is b;word 3 is c;line 0 is 0;line 1 is 1 2;line 2 is 0 0"), 7);
        due("a whole piece", x.jar(0, 0, 0), 0);
        due("each by itself: two cuts", x.jar(1, 0, 0), 10);
        due("no difference from word to word", x.jar(2, 0, 0), 0);
        due("told()", tell(x, "line 3 is 0 0 0 0 0 0 0 3;line 4 is 3 0;line 5 is 4;line 6 is 3 4"), 4);
        due("the last cannot be said", x.jar(3, 0, 0), NONE);
        due("the first cannot be said", x.jar(4, 0, 0), NONE);
        due("not told", x.jar(5, 0, 0), NOT);
        due("one cannot be said, one is not told", x.jar(6, 0, 0), NOT);
        due("not told, by a voice without pieces", x.jar(5, 0, 3), NOT);
        due("by a voice without pieces", x.jar(0, 0, 3), NONE);
        OneVoice y = new OneVoice();
        piece(y, "cac", 0, 0, 3);
        piece(y, "cbc", 99, 99, 3);
        due("told()", tell(y, "cut 99;word 9 is abababab;word 27 is babababa;line 0 is ########"), 4);
        due("the largest", y.jar(0, 99, 3), 16 * (8 * 198 + 7 * 99));
    }

    private static void jarRefused() {
        sentence("JAR of a LINE with a number, said by a VOICE");
        OneVoice x = new OneVoice();
        due("nothing told", x.jar(0, 0, 0), UNKNOWN);
        due("told()", tell(x, "word 0 is a;line 0 is 0;line 6 is 5"), 3);
        int[] unknown = {MIN, -1, 1, 7, 8, MAX};
        for (int line : unknown) {
            due("line " + line, x.jar(line, 0, 0), UNKNOWN);
            due("line " + line + ", v -1", x.jar(line, -1, 0), UNKNOWN);
            due("line " + line + ", voice 4", x.jar(line, 0, 4), UNKNOWN);
        }
        due("v 100 of what cannot be spoken", x.jar(6, 100, 0), OUTSIDE);
        due("voice 4 of what cannot be spoken", x.jar(6, 0, 4), OUTSIDE);
        due("voice -1 of what cannot be said", x.jar(0, 0, -1), OUTSIDE);
        due("v 99", x.jar(0, 99, 0), NONE);
        due("what cannot be spoken", x.jar(6, 99, 3), NOT);
    }
}
