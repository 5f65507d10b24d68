/** Promises 22 to 26 at their bounds: each sentence of the document that names one has a test of its own. */
public final class BoundsOfLoudnessTest extends Check {
    private static final int ALL = 65535;

    public static void main(String[] args) {
        names();
        steps();
        pausesAsTheyStand();
        allNames();
        linesThatCanBe();
        linesUpToTheLast();
        fewest();
        leastNumber();
        recordNone();
        spots();
        crowds();
        heardWith();
        moreThanTen();
        understoodPower();
        understoodSpots();
        leastPower();
        leastSpot();
        largestPower();
        powerSets();
        powerSpots();
        counts();
        countWhat();
        callsOfOneObject();
        end();
    }

    private static void names() {
        sentence("NAMES are WORDS 28 .. 31 that are told.");
        OneVoice x = new OneVoice();
        due("nothing told", x.record(), 0);
        due("told()", tell(x, "word 27 is p;word 0 is p"), 2);
        due("27 is none, nor is 0", x.record(), 0);
        for (int name = 28; name < 32; name++) {
            OneVoice y = new OneVoice();
            due("told()", tell(y, "word " + name + " is a"), 1);
            due("no line has " + name, y.record(), NONE);
            due("told()", tell(y, "line 4 is " + name), 1);
            due("a line has " + name, y.record(), 16);
        }
    }

    private static void steps() {
        sentence("STEPS of a row of SOUNDS: each two side by side (the first and the last one stand beside a pause: SOUND 16).");
        recordOf("word 28 is ab;word 0 is ab;line 0 is 0", 1);
        recordOf("word 28 is ab;word 0 is cab;line 0 is 0", NONE);
        recordOf("word 28 is ab;word 0 is abc;line 0 is 0", NONE);
        recordOf("word 28 is ab;word 0 is acb;line 0 is 0", NONE);
        recordOf("word 28 is ab;word 0 is ba;line 0 is 0", NONE);
        recordOf("word 28 is ab;word 0 is acab;line 0 is 0", 1);
        recordOf("word 28 is p;word 0 is p;line 0 is 0", 1);
        recordOf("word 28 is a;word 0 is aa;line 0 is 0", 1);
        recordOf("word 28 is aa;word 0 is a;line 0 is 0", NONE);
        recordOf("word 28 is aa;word 0 is a;line 0 is 0 0", 1);
        recordOf("word 28 is abcdefgh;word 0 is abcdefg;word 1 is h;line 0 is 0 1", 1);
        recordOf("word 28 is abcdefgh;word 0 is abcdefgh;line 0 is 0 0", 1);
        recordOf("word 28 is apap;word 0 is apappap;line 0 is 0", 1);
        recordOf("word 28 is appa;word 0 is apa;line 0 is 0", NONE);
    }

    private static void recordOf(String text, int want) {
        OneVoice x = new OneVoice();
        due("told() of " + text, tell(x, text) > 0 ? 1 : 0, 1);
        due("record() of " + text, x.record(), want);
    }

    private static void pausesAsTheyStand() {
        sentence("(pauses count as they stand)");
        recordOf("word 28 is a;word 0 is ab;line 0 is 0", NONE);
        recordOf("word 28 is a;word 0 is ba;line 0 is 0", NONE);
        recordOf("word 28 is a;word 0 is ab;word 1 is ba;line 0 is 0 1", 1);
        recordOf("word 28 is a;word 0 is ab;word 1 is ba;line 0 is 0;line 1 is 1", 3);
        recordOf("word 28 is a;word 0 is ab;word 1 is ba;line 0 is 1 0", NONE);
        recordOf("word 28 is ab;word 0 is a;word 1 is b;line 0 is 0;line 1 is 1", NONE);
        recordOf("word 28 is ab;word 0 is a;word 1 is b;line 0 is 0 1", 1);
    }

    private static void allNames() {
        sentence("the fewest whose SOUNDS' STEPS have all STEPS of all NAMES");
        OneVoice x = new OneVoice();
        due("told()", tell(x, "word 28 is abcdefgh;word 29 is ijklmnop;word 30 is acegikmo;word 31 is bdfhjlnp"), 4);
        due("told()", tell(x, "line 0 is 28;line 1 is 29;line 2 is 30;line 3 is 31"), 4);
        due("36 steps, each line has nine", x.record(), 15);
        String[] cut = {"bcdefgh", "abcdefg", "jklmnop", "ijklmno", "cegikmo", "acegikm", "dfhjlnp", "bdfhjln"};
        for (int i = 0; i < cut.length; i++) {
            due("told()", tell(x, "word 0 is " + cut[i] + ";line " + i / 2 + " is 0"), 2);
            due("a step of " + cut[i] + " is not there", x.record(), NONE);
            due("told()", tell(x, "line " + i / 2 + " is " + (28 + i / 2)), 1);
            due("it is there again", x.record(), 15);
        }
    }

    private static void linesThatCanBe() {
        sentence("of LINES 0 .. 7 that are told and have no NUMBER, and CAN be spoken");
        recordOf("word 28 is a;line 0 is 28", 1);
        recordOf("word 28 is a;line 0 is 28 #", NONE);
        recordOf("word 28 is a;line 0 is # 28", NONE);
        recordOf("word 0 is a;word 28 is a;line 0 is #", NONE);
        recordOf("word 0 is a;word 28 is a;line 0 is 28 28 28 28 28 28 28 #", NONE);
        recordOf("word 28 is a;line 0 is 28 28 28 28 28 28 28 0", NONE);
        recordOf("word 28 is a;line 0 is 28 28 28 28 28 28 28 28", 1);
        recordOf("word 28 is a;line 0 is 28 1;line 1 is 28 #;line 2 is 28", 4);
        recordOf("word 28 is a;line 0 is 28 #;line 0 is 28", 1);
        recordOf("word 28 is a;line 0 is 28 28 28 28 28 28 28 28;line 1 is #", 1);
        recordOf("word 28 is a;line 7 is 28 28 28 28 28 28 28 28", 128);
    }

    private static void linesUpToTheLast() {
        sentence("RECORD: of LINES 0 .. 7");
        for (int line = 0; line < 8; line++) {
            recordOf("word 28 is a;line " + line + " is 28", 1 << line);
        }
        OneVoice x = new OneVoice();
        due("told()", tell(x, "word 0 is bccddeef;word 1 is fgghhiij;word 2 is jkkllmmn;word 3 is nooppaab"), 4);
        due("told()", tell(x, "word 28 is abcdefgh;word 29 is ijklmnop;line 0 is 0;line 1 is 1;line 2 is 2;line 3 is 3"), 6);
        due("pauses are not there", x.record(), NONE);
        due("told()", tell(x, "word 4 is a;word 5 is h;word 6 is i;word 7 is p;line 4 is 4;line 5 is 5;line 6 is 6;line 7 is 7"), 8);
        due("all eight lines", x.record(), 255);
    }

    private static void fewest() {
        sentence("the fewest whose");
        recordOf("word 28 is a;word 29 is b;line 0 is 28;line 1 is 29;word 0 is aab;line 7 is 28", 3);
        recordOf("word 28 is a;word 29 is aa;line 0 is 28;line 1 is 29", 2);
        recordOf("word 28 is a;word 29 is a;line 0 is 28;line 1 is 29", 1);
        recordOf("word 28 is ab;word 0 is abb;word 1 is aab;line 0 is 0;line 1 is 1;line 7 is 28", 1);
        recordOf("word 28 is ab;word 0 is ac;word 1 is cb;word 2 is cabc;line 0 is 0;line 1 is 1;line 2 is 2;line 7 is 28", 128);
        recordOf("word 28 is ab;word 0 is ac;word 1 is cb;word 2 is cabc;line 0 is 0;line 1 is 1;line 2 is 2", 7);
    }

    private static void leastNumber() {
        sentence("of several the least number (bits); none.");
        recordOf("word 28 is a;line 6 is 28;line 7 is 28", 64);
        recordOf("word 28 is a;line 0 is 28;line 7 is 28", 1);
        recordOf("word 28 is a;word 0 is ab;word 1 is ba;line 0 is 0;line 5 is 1;line 3 is 0;line 4 is 1", 17);
        recordOf("word 28 is a;word 0 is ab;word 1 is ba;line 7 is 0;line 1 is 1;line 2 is 1;line 6 is 0", 66);
        recordOf("word 28 is a;word 0 is ab;word 1 is ba;line 5 is 0;line 6 is 1;line 7 is 0", 96);
    }

    private static void recordNone() {
        sentence("RECORD, by bits; NONE.");
        OneVoice x = new OneVoice();
        due("no names, no lines", x.record(), 0);
        due("told()", tell(x, "word 0 is a;line 0 is 0"), 2);
        due("no names, a line", x.record(), 0);
        due("told()", tell(x, "word 31 is b"), 1);
        due("a name that cannot be made", x.record(), NONE);
        due("told()", tell(x, "word 0 is b"), 1);
        due("now it can", x.record(), 1);
        due("nothing was changed by asking", x.record(), 1);
        due("told()", tell(x, "line 0 is 0 #"), 1);
        due("its line has a number now", x.record(), NONE);
        due("told()", tell(x, "line 0 is 0;word 31 is bb"), 2);
        due("another name", x.record(), NONE);
        due("told()", tell(x, "line 0 is 0 0;word 31 is b;word 0 is bb"), 3);
        due("the first name again, and no step of the other", x.record(), 1);
        due("told()", tell(x, "word 31 is c;word 1 is c;line 1 is 1"), 3);
        due("a name told anew needs no more than its own steps", x.record(), 2);
        due("told()", tell(x, "line 1 is 1 9"), 1);
        due("its line cannot be spoken now", x.record(), NONE);
    }

    private static void spots() {
        sentence("SPOTS are 0 .. 15 along a PLATFORM");
        OneVoice x = new OneVoice();
        int[] unknown = {MIN, -2, -1, 16, 17, MAX};
        for (int spot : unknown) {
            due("crowd at " + spot, x.crowd(spot, 0), UNKNOWN);
            due("understood from " + spot, x.understood(spot, 0), UNKNOWN);
        }
        for (int spot = 0; spot < 16; spot++) {
            due("crowd at " + spot, x.crowd(spot, spot), 0);
            due("understood from " + spot, x.understood(spot, 11 + spot) >> spot & 1, 1);
            due("crowd at " + spot, x.crowd(spot, 0), spot);
        }
    }

    private static void crowds() {
        sentence("each with CROWD (0 .. 99; 0 at first)");
        OneVoice x = new OneVoice();
        for (int spot = 0; spot < 16; spot++) {
            due("at first, at " + spot, x.crowd(spot, 99), 0);
        }
        int[] outside = {MIN, -1, 100, 101, MAX};
        for (int v : outside) {
            due("crowd(0, " + v + ")", x.crowd(0, v), OUTSIDE);
            due("crowd(15, " + v + ")", x.crowd(15, v), OUTSIDE);
            due("crowd(16, " + v + ")", x.crowd(16, v), UNKNOWN);
        }
        due("99 still", x.crowd(0, 0), 99);
        due("0 now", x.crowd(0, 50), 0);
        due("of this spot alone", x.crowd(1, 0), 99);
        sentence("CROWD at a SPOT: that which it was. UNKNOWN; OUTSIDE.");
        due("50", x.crowd(0, 51), 50);
        due("51", x.crowd(0, 51), 51);
    }

    private static void heardWith() {
        sentence("Spoken with POWER v at SPOT k it is heard at SPOT i with v less 3 times how far off, less CROWD there");
        OneVoice x = new OneVoice();
        for (int far = 0; far < 16; far++) {
            due("just too weak for " + far, x.understood(0, 10 + 3 * far), (1 << far) - 1);
            due("just enough for " + far, x.understood(0, 11 + 3 * far), (1 << (far + 1)) - 1);
            due("down from 15, " + far, x.understood(15, 11 + 3 * far), ALL & ~((1 << (15 - far)) - 1));
        }
        x.crowd(4, 99);
        due("a crowd where it is spoken is no crowd elsewhere", x.understood(4, 11 + 33), ALL - (1 << 4));
        due("just too weak there", x.understood(4, 109), ALL - (1 << 4));
        due("just enough there", x.understood(4, 110), ALL);
        due("from beside it", x.understood(5, 112), ALL - (1 << 4));
        due("just enough from beside it", x.understood(5, 113), ALL);
    }

    private static void moreThanTen() {
        sentence("UNDERSTOOD, if that is more than 10.");
        OneVoice x = new OneVoice();
        due("0", x.understood(7, 0), 0);
        due("9", x.understood(7, 9), 0);
        due("10", x.understood(7, 10), 0);
        due("11", x.understood(7, 11), 1 << 7);
        due("13: 10 beside it", x.understood(7, 13), 1 << 7);
        due("14: 11 beside it", x.understood(7, 14), 7 << 6);
        x.crowd(7, 1);
        due("11 with a crowd of 1", x.understood(7, 11), 0);
        due("12 with a crowd of 1", x.understood(7, 12), 1 << 7);
    }

    private static void understoodPower() {
        sentence("SPOTS that UNDERSTAND what is spoken with POWER v (0 .. 999) at a SPOT, by bits. UNKNOWN; OUTSIDE.");
        OneVoice x = new OneVoice();
        int[] outside = {MIN, -1, 1000, 1001, MAX};
        for (int v : outside) {
            due("understood(0, " + v + ")", x.understood(0, v), OUTSIDE);
            due("understood(15, " + v + ")", x.understood(15, v), OUTSIDE);
            due("understood(16, " + v + ")", x.understood(16, v), UNKNOWN);
            due("understood(-1, " + v + ")", x.understood(-1, v), UNKNOWN);
        }
        due("understood(0, 0)", x.understood(0, 0), 0);
        due("understood(15, 999)", x.understood(15, 999), ALL);
    }

    private static void understoodSpots() {
        sentence("at a SPOT, by bits.");
        OneVoice x = new OneVoice();
        due("spot 0 alone", x.understood(0, 11), 1);
        due("spot 15 alone", x.understood(15, 11), 1 << 15);
        due("none beyond the ends", x.understood(0, 14), 3);
        due("none beyond the ends", x.understood(15, 14), 3 << 14);
    }

    private static void leastPower() {
        sentence("LEAST POWER for a set of SPOTS, spoken at SPOT k: the least v (0 .. 999) by which all of it UNDERSTAND");
        OneVoice x = new OneVoice();
        x.crowd(3, 40);
        x.crowd(12, 99);
        int[] sets = {1, 1 << 3, 1 << 15, ALL, 1 << 12, 9, 0x8001, 0x1008};
        for (int set : sets) {
            for (int spot = 0; spot < 16; spot += 5) {
                int v = x.power(spot, set);
                due("all understand, " + spot + ", " + set, x.understood(spot, v) & set, set);
                due("one less is too weak, " + spot + ", " + set, (x.understood(spot, v - 1) & set) == set ? 1 : 0, 0);
            }
        }
        due("spot 0 from itself", x.power(0, 1), 11);
        due("the far end", x.power(0, 1 << 15), 56);
        due("the crowd", x.power(12, 1 << 12), 110);
        due("a set of none", x.power(0, 0), 0);
        due("a set of none among crowds", x.power(12, 0), 0);
    }

    private static void leastSpot() {
        sentence("of all k that with the least, of several the least k.");
        OneVoice x = new OneVoice();
        for (int spot = 0; spot < 16; spot++) {
            due("where it is heard, " + spot, x.power(NONE, 1 << spot), 16 * 11 + spot);
        }
        due("of two beside each other", x.power(NONE, 3), 16 * 14);
        due("of the last two", x.power(NONE, 3 << 14), 16 * 14 + 14);
        due("between three", x.power(NONE, 7), 16 * 14 + 1);
        due("of none", x.power(NONE, 0), 0);
        due("of all", x.power(NONE, ALL), 16 * 35 + 7);
        x.crowd(15, 3);
        due("one nearer to the crowd", x.power(NONE, ALL), 16 * 35 + 8);
        x.crowd(15, 99);
        due("at the crowd", x.power(NONE, ALL), 16 * 110 + 15);
        due("not of a crowd that is not in the set", x.power(NONE, 1), 16 * 11);
    }

    private static void largestPower() {
        sentence("(Not above 999: none other is needed.)");
        OneVoice x = new OneVoice();
        x.crowd(15, 99);
        due("the largest there is", x.power(0, ALL), 155);
        x.crowd(0, 99);
        due("from the other end", x.power(15, ALL), 155);
        due("in the middle", x.power(NONE, ALL), 16 * 134 + 7);
        for (int spot = 0; spot < 16; spot++) {
            x.crowd(spot, 99);
        }
        due("crowds everywhere", x.power(NONE, ALL), 16 * 134 + 7);
        due("crowds everywhere, from 0", x.power(0, ALL), 155);
    }

    private static void powerSets() {
        sentence("LEAST POWER for a set of SPOTS (0 .. 65535)");
        OneVoice x = new OneVoice();
        int[] outside = {MIN, -1, 65536, 65537, 1 << 17, MAX};
        for (int set : outside) {
            due("power(0, " + set + ")", x.power(0, set), OUTSIDE);
            due("power(15, " + set + ")", x.power(15, set), OUTSIDE);
            due("power(NONE, " + set + ")", x.power(NONE, set), OUTSIDE);
            due("power(16, " + set + ")", x.power(16, set), UNKNOWN);
            due("power(-2, " + set + ")", x.power(-2, set), UNKNOWN);
        }
        due("set 0", x.power(8, 0), 0);
        due("set 65535", x.power(8, 65535), 35);
    }

    private static void powerSpots() {
        sentence("at a SPOT; of all (NONE): 16 times it and the SPOT. UNKNOWN; OUTSIDE.");
        OneVoice x = new OneVoice();
        int[] unknown = {MIN, -3, -2, 16, 17, MAX};
        for (int spot : unknown) {
            due("power(" + spot + ", 1)", x.power(spot, 1), UNKNOWN);
        }
        due("spot 0", x.power(0, 1), 11);
        due("spot 15", x.power(15, 1), 56);
        due("of all", x.power(-1, 1), 176);
    }

    private static void counts() {
        sentence("0 PIECES, 1 bytes of THE TEXT, 2 WORDS told, 3 LINES told, 4 what a CUT costs, 5 CALLS, 6 TICKS.");
        OneVoice x = new OneVoice();
        int[] first = {0, 0, 0, 0, 5, 0, 0};
        for (int what = 0; what < 7; what++) {
            due("at first, count(" + what + ")", x.count(what), first[what]);
        }
        for (int from = 0; from < 32; from += 8) {
            StringBuilder rows = new StringBuilder("cut 99");
            for (int word = from; word < from + 8; word++) {
                rows.append(";word ").append(word).append(" is a");
            }
            due("told()", tell(x, rows.toString()), 9);
        }
        StringBuilder rows = new StringBuilder("line 7 is #");
        for (int line = 0; line < 8; line++) {
            rows.append(";line ").append(line).append(" is 0");
        }
        due("told()", tell(x, rows.toString()), 9);
        for (int i = 0; i < 16; i++) {
            x.piece(0, 1, 0, 0, 0);
        }
        for (int i = 0; i < 24; i++) {
            x.call(0, 0, 0, 0, 1, false);
        }
        for (int i = 0; i < 20; i++) {
            x.run(100);
        }
        for (int i = 0; i < 25; i++) {
            x.write(0, 8);
        }
        int[] most = {16, 200, 32, 8, 99, 24, 2000};
        for (int what = 0; what < 7; what++) {
            due("at most, count(" + what + ")", x.count(what), most[what]);
        }
    }

    private static void countWhat() {
        sentence("5 CALLS, 6 TICKS. OUTSIDE.");
        OneVoice x = new OneVoice();
        int[] outside = {MIN, -1, 7, 8, MAX};
        for (int what : outside) {
            due("count(" + what + ")", x.count(what), OUTSIDE);
        }
    }

    private static void callsOfOneObject() {
        sentence("An object is used for at most 512 calls after it has been made");
        OneVoice x = new OneVoice();
        due("call 1", x.piece(0, 8, 0, 99, 0), 0);
        for (int i = 2; i < 512; i++) {
            due("call " + i, x.said(0, 0, 1 + i % 16, 0) >= 0 ? 1 : 0, 1);
        }
        due("call 512", x.bit(0, 0, 8, 0), 8);
    }
}
