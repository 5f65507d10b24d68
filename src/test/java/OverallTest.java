import java.util.ArrayList;
import java.util.List;
import java.util.Random;

/**
 * What holds behind every tick, whatever was called: "never two voices in one ear's reach", "a cry of danger that cuts
 * in behind a word", "what grows stale and is left unsaid". No model says here what is due; each rule is looked at in
 * what the calls tell of themselves.
 */
public final class OverallTest extends Check {
    private static final int RUNS = 400;
    private static final int TICKS = 60;
    private static final int WAITING = 0, SPOKEN = 1, DONE = 2, CUT_OFF = 3, STALE = 4, MUTE = 5;
    /** Sounds of words 0 .. 4; d is said by no piece. */
    private static final String[] WORDS = {"a", "bc", "abc", "cabba", "d"};
    private static final int[][] LINES = {{0}, {1, 0}, {2, 1, 2}, {3, 3}, {0, 4}, {1, 1, 1, 1}};

    private static final class Cry {
        int number, platform, line, ready, stale;
        boolean danger;
        int state, said;
        int began = NONE;
        /** Where it must end, as it was told to stop; 0: it was not. */
        int end;
        boolean saidNow;
    }

    private final Random random;
    private OneVoice x;
    private final boolean[][] hears = new boolean[6][6];
    private final List<Cry> cries = new ArrayList<>();

    private OverallTest(long seed) {
        random = new Random(seed);
    }

    public static void main(String[] args) {
        int runs = args.length > 0 ? Integer.parseInt(args[0]) : RUNS;
        for (int seed = 0; seed < runs; seed++) {
            about("run " + seed);
            new OverallTest(seed).go();
        }
        end();
    }

    private void go() {
        choosePairs();
        for (int i = 6 + random.nextInt(19); i > 0; i--) {
            chooseCry();
        }
        for (int tick = 0; tick < TICKS; tick++) {
            noteWhoIsToldToStop(tick);
            makeAnew(tick + 1);
            for (Cry one : cries) {
                look(one, tick);
            }
            for (Cry one : cries) {
                lookAround(one, tick);
            }
            lookAtPlatforms();
        }
    }

    /** All that is asked behind all ticks would be more than an object's 512 calls. */
    private void makeAnew(int ticks) {
        x = new OneVoice();
        for (int i = 0; i < 3; i++) {
            x.piece(i, 1, 5, 5, 0);
        }
        tellLines();
        tellPairs();
        for (Cry one : cries) {
            due("call", x.call(one.platform, one.line, 0, one.ready, one.stale, one.danger), one.number);
        }
        for (int gone = 0; gone < ticks;) {
            int more = 1 + random.nextInt(ticks - gone);
            gone += more;
            due("run(" + more + ")", x.run(more), gone);
        }
    }

    private void tellLines() {
        StringBuilder words = new StringBuilder("cut 0");
        for (int i = 0; i < WORDS.length; i++) {
            words.append(";word ").append(i).append(" is ").append(WORDS[i]);
        }
        due("words", tell(x, words.toString()), 1 + WORDS.length);
        StringBuilder lines = new StringBuilder("cut 5");
        for (int i = 0; i < LINES.length; i++) {
            lines.append(";line ").append(i).append(" is");
            for (int word : LINES[i]) {
                lines.append(' ').append(word);
            }
        }
        due("lines", tell(x, lines.toString()), 1 + LINES.length);
    }

    private void tellPairs() {
        for (int a = 0; a < 6; a++) {
            for (int b = 0; b < a; b++) {
                if (hears[a][b]) {
                    due("near", tell(x, "near " + a + " " + b), 1);
                }
            }
        }
    }

    private void choosePairs() {
        for (int a = 0; a < 6; a++) {
            hears[a][a] = true;
            for (int b = 0; b < a; b++) {
                hears[a][b] = random.nextInt(3) == 0;
                hears[b][a] = hears[a][b];
            }
        }
    }

    private void chooseCry() {
        Cry one = new Cry();
        one.number = cries.size();
        one.platform = random.nextInt(6);
        one.line = random.nextInt(LINES.length);
        one.ready = random.nextInt(TICKS / 2);
        one.stale = one.ready + 1 + random.nextInt(TICKS / 2);
        one.danger = random.nextInt(4) == 0;
        cries.add(one);
    }

    private static int endOfWord(Cry one, int next) {
        int end = 0;
        for (int word : LINES[one.line]) {
            end += WORDS[word].length();
            if (next < end) {
                return end;
            }
        }
        return end;
    }

    private static int length(Cry one) {
        return endOfWord(one, Integer.MAX_VALUE);
    }

    private boolean inReach(Cry one, Cry other) {
        return hears[one.platform][other.platform];
    }

    private void noteWhoIsToldToStop(int tick) {
        for (Cry danger : cries) {
            boolean calls = danger.danger && danger.state == WAITING && danger.ready <= tick && danger.stale > tick;
            for (Cry one : cries) {
                if (calls && one.state == SPOKEN && !one.danger && one.end == 0 && inReach(danger, one)) {
                    one.end = endOfWord(one, one.said);
                }
            }
        }
    }

    private void rule(boolean holds, Cry one, int tick, String what) {
        if (!holds) {
            fail("call " + one.number + " behind tick " + tick + ": " + what);
        }
    }

    /** What a call tells of itself, beside what it told a tick ago. */
    private void look(Cry one, int tick) {
        int was = one.state;
        int had = one.said;
        one.state = x.heard(one.number, 0);
        one.said = x.heard(one.number, 1);
        one.began = x.heard(one.number, 2);
        one.saidNow = one.said > had;
        rule(was == WAITING || was == SPOKEN || was == one.state && had == one.said, one, tick, "it stays what it is");
        rule(was != SPOKEN || one.state >= SPOKEN && one.state <= CUT_OFF, one, tick, "what is spoken ends, or goes on");
        rule(was != SPOKEN || one.said == had + 1, one, tick, "a sound in each tick");
        rule(one.state != CUT_OFF || !one.danger, one, tick, "danger is never cut off");
        switch (one.state) {
            case WAITING, STALE, MUTE -> rule(one.said == 0 && one.began == NONE, one, tick, "it said nothing");
            case SPOKEN -> rule(one.said < length(one) && one.said == tick + 1 - one.began, one, tick, "not yet at its end");
            case DONE -> rule(one.said == length(one), one, tick, "done behind its last sound");
            case CUT_OFF -> rule(one.said == one.end && one.end < length(one), one, tick, "cut off where it must end");
            default -> rule(false, one, tick, "there is no such state");
        }
        rule(one.end == 0 || one.said <= one.end, one, tick, "told to stop, it goes on to the end of its word");
        rule(one.end == 0 || one.said < one.end || one.state != SPOKEN, one, tick, "told to stop, it ends there");
        rule(one.state != STALE || one.stale <= tick, one, tick, "stale too soon");
        rule(one.state != WAITING || one.stale > tick, one, tick, "stale too late");
        rule(one.state != MUTE || one.line == 4, one, tick, "mute, and can be spoken");
        rule(one.began == NONE || one.line != 4, one, tick, "spoken, and is mute");
        rule(one.began == NONE || one.began >= one.ready && one.began < one.stale, one, tick, "begun out of its time");
    }

    /** Who said a sound in this tick, and who had to wait for it. */
    private void lookAround(Cry one, int tick) {
        boolean cause = false;
        for (Cry other : cries) {
            if (inReach(one, other) && one != other) {
                rule(!one.saidNow || !other.saidNow, one, tick, "two voices in one ear's reach: call " + other.number);
                boolean dangerWaits = other.danger && other.state == WAITING && other.ready <= tick;
                rule(!dangerWaits || one.danger || one.began != tick, one, tick, "it began while danger waits");
                cause |= other.saidNow || dangerWaits && !one.danger;
            }
        }
        rule(one.state != WAITING || one.ready > tick || cause, one, tick, "it waits, and nothing keeps it");
    }

    private void lookAtPlatforms() {
        for (int platform = 0; platform < 6; platform++) {
            int speaks = NONE;
            for (Cry one : cries) {
                speaks = one.state == SPOKEN && one.platform == platform ? one.number : speaks;
            }
            due("speaks(" + platform + ")", x.speaks(platform), speaks);
        }
    }
}
