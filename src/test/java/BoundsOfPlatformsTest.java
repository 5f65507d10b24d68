/** Promises 15 to 21 at their bounds: each sentence of the document that names one has a test of its own. */
public final class BoundsOfPlatformsTest extends Check {
    private static final int WAITING = 0, SPOKEN = 1, DONE = 2, CUT_OFF = 3, STALE = 4, MUTE = 5;

    public static void main(String[] args) {
        platformsAtFirst();
        twentyFourCalls();
        ready();
        stale();
        callRefused();
        ticksAtFirst();
        oneToAHundredTicks();
        beyondTwoThousand();
        staleAtThisTick();
        staleWaitsAlone();
        staleDangerStopsNothing();
        readyAtThisTick();
        dangerByNumbers();
        toldToStopInReach();
        toTheEndOfTheWord();
        toldToStopForGood();
        nothingAtAllIsSpoken();
        othersByNumbers();
        dangerThatIsReadyAndWaits();
        lastSound();
        longestCall();
        cutOffOrDone();
        muteWords();
        muteWhenItWouldBegin();
        muteTakesNoTime();
        textsToldAnew();
        hearEachOther();
        everyPairHears();
        heardWhat();
        heardCalls();
        speaks();
        voiceWhat();
        wishThroughChanges();
        wishRefused();
        wishAnew();
        change();
        end();
    }

    /** Sounds a, b, c by voice 0; line 0 has words of 3, 2 and 1 sounds, 1 and 2 a word of 1 and of 2; 3 is a number. */
    private static OneVoice platforms(String more) {
        OneVoice x = new OneVoice();
        for (int i = 0; i < 3; i++) {
            x.piece(i, 1, 5, 5, 0);
        }
        String rows = "word 0 is abc;word 1 is bc;word 2 is c;line 0 is 0 1 2;line 1 is 2;line 2 is 1;line 3 is #";
        due("told()", tell(x, rows + more), 7 + more.chars().filter(sign -> sign == ';').count());
        return x;
    }

    private static void state(OneVoice x, int call, int want) {
        due("state of " + call + " behind tick " + (x.count(6) - 1), x.heard(call, 0), want);
    }

    private static void state(OneVoice x, int call, int want, int sounds) {
        state(x, call, want);
        due("sounds of " + call + " behind tick " + (x.count(6) - 1), x.heard(call, 1), sounds);
    }

    private static void began(OneVoice x, int call, int want) {
        due("begin of " + call, x.heard(call, 2), want);
    }

    private static void platformsAtFirst() {
        sentence("PLATFORMS are 0 .. 5, each with a VOICE (0 at first).");
        OneVoice x = new OneVoice();
        for (int platform = 0; platform < 6; platform++) {
            due("voice of " + platform, x.voice(platform, 0), 0);
            due("wish at " + platform, x.voice(platform, 1), 0);
            due("speaks at " + platform, x.speaks(platform), NONE);
        }
        OneVoice y = platforms("");
        for (int platform = 0; platform < 6; platform++) {
            y.call(platform, 0, 0, 0, 9, false);
        }
        y.run(1);
        for (int platform = 0; platform < 6; platform++) {
            due("none hears another at first: " + platform, y.speaks(platform), platform);
        }
    }

    private static void twentyFourCalls() {
        sentence("CALLS are 24 at most");
        OneVoice x = platforms("");
        due("count(5)", x.count(5), 0);
        for (int i = 0; i < 24; i++) {
            due("heard(" + i + ", 0) ahead of it", x.heard(i, 0), UNKNOWN);
            due("call " + i, x.call(i % 6, 1, 0, i, 3000, i % 2 == 0), i);
        }
        due("a 25th", x.call(0, 1, 0, 0, 3000, false), FULL);
        due("a 25th of danger", x.call(0, 1, 0, 0, 3000, true), FULL);
        due("count(5)", x.count(5), 24);
        due("heard(24, 0)", x.heard(24, 0), UNKNOWN);
        x.run(24);
        for (int i = 0; i < 24; i++) {
            state(x, i, DONE);
        }
        due("no room behind those that are done", x.call(0, 1, 0, 30, 3000, false), FULL);
    }

    private static void ready() {
        sentence("READY at a TICK (0 .. 2000)");
        OneVoice x = platforms("");
        int[] outside = {MIN, -1, 2001, 2002, 2999, MAX - 1, MAX};
        for (int tick : outside) {
            due("ready " + tick, x.call(0, 1, 0, tick, 3000, false), OUTSIDE);
            due("ready " + tick + ", stale behind it", x.call(0, 1, 0, tick, tick + 1, false), OUTSIDE);
        }
        due("count(5)", x.count(5), 0);
        due("ready 0", x.call(0, 1, 0, 0, 3000, false), 0);
        due("ready 2000", x.call(0, 1, 0, 2000, 3000, false), 1);
        x.run(1);
        began(x, 0, 0);
    }

    private static void stale() {
        sentence("STALE at a TICK (behind READY, 3000 at most)");
        OneVoice x = platforms("");
        int[] outside = {MIN, -1, 0, 6, 7, 3001, 3002, MAX};
        for (int tick : outside) {
            due("ready 7, stale " + tick, x.call(0, 1, 0, 7, tick, false), OUTSIDE);
        }
        due("ready 0, stale 0", x.call(0, 1, 0, 0, 0, false), OUTSIDE);
        due("ready 2000, stale 2000", x.call(0, 1, 0, 2000, 2000, false), OUTSIDE);
        due("ready 2000, stale 3001", x.call(0, 1, 0, 2000, 3001, true), OUTSIDE);
        due("count(5)", x.count(5), 0);
        due("ready 0, stale 1", x.call(0, 1, 0, 0, 1, false), 0);
        due("ready 7, stale 8", x.call(0, 1, 0, 7, 8, false), 1);
        due("ready 0, stale 3000", x.call(0, 1, 0, 0, 3000, false), 2);
        due("ready 2000, stale 2001", x.call(0, 1, 0, 2000, 2001, false), 3);
        due("ready 2000, stale 3000", x.call(0, 1, 0, 2000, 3000, false), 4);
    }

    private static void callRefused() {
        sentence("A CALL: its number. UNKNOWN: PLATFORM, LINE (not told); OUTSIDE: number, READY, STALE; FULL.");
        OneVoice x = platforms("");
        int[] platforms = {MIN, -1, 6, 7, MAX};
        int[] lines = {MIN, -1, 4, 7, 8, MAX};
        for (int platform : platforms) {
            due("platform " + platform, x.call(platform, 0, 0, 0, 1, false), UNKNOWN);
            due("platform " + platform + ", v 100", x.call(platform, 0, 100, 0, 1, false), UNKNOWN);
        }
        for (int line : lines) {
            due("line " + line, x.call(0, line, 0, 0, 1, false), UNKNOWN);
            due("line " + line + ", ready -1", x.call(0, line, 0, -1, 1, true), UNKNOWN);
            due("line " + line + ", stale 0", x.call(0, line, 0, 0, 0, true), UNKNOWN);
        }
        int[] numbers = {MIN, -1, 100, 101, MAX};
        for (int v : numbers) {
            due("v " + v, x.call(0, 0, v, 0, 1, false), OUTSIDE);
        }
        due("count(5)", x.count(5), 0);
        due("platform 5, line 3, v 99, which cannot be spoken", x.call(5, 3, 99, 0, 1, false), 0);
        for (int i = 1; i < 24; i++) {
            due("call " + i, x.call(0, 0, 0, 0, 1, false), i);
        }
        due("full", x.call(0, 0, 0, 0, 1, false), FULL);
        due("full and platform 6", x.call(6, 0, 0, 0, 1, false), UNKNOWN);
        due("full and line 4", x.call(0, 4, 0, 0, 1, false), UNKNOWN);
        due("full and v 100", x.call(0, 0, 100, 0, 1, false), OUTSIDE);
        due("full and ready 2001", x.call(0, 0, 0, 2001, 3000, false), OUTSIDE);
        due("full and stale at ready", x.call(0, 0, 0, 5, 5, false), OUTSIDE);
    }

    private static void ticksAtFirst() {
        sentence("TICKS (0 at first, 2000 at most) go by one after the other");
        OneVoice x = platforms("");
        due("count(6)", x.count(6), 0);
        x.call(0, 0, 0, 0, 9, false);
        state(x, 0, WAITING, 0);
        for (int i = 1; i <= 6; i++) {
            due("run(1)", x.run(1), i);
            due("one sound in each", x.heard(0, 1), i);
        }
        state(x, 0, DONE);
        began(x, 0, 0);
    }

    private static void oneToAHundredTicks() {
        sentence("n TICKS (1 .. 100) go by: TICKS. OUTSIDE: also beyond 2000.");
        OneVoice x = platforms("");
        x.call(0, 1, 0, 0, 3000, false);
        int[] outside = {MIN, -100, -1, 0, 101, 200, 2000, MAX};
        for (int n : outside) {
            due("run(" + n + ")", x.run(n), OUTSIDE);
        }
        due("no tick went by", x.count(6), 0);
        state(x, 0, WAITING, 0);
        due("run(1)", x.run(1), 1);
        due("run(100)", x.run(100), 101);
        due("run(99)", x.run(99), 200);
    }

    private static void beyondTwoThousand() {
        sentence("OUTSIDE: also beyond 2000.");
        OneVoice x = platforms("");
        x.call(0, 1, 0, 1999, 2000, false);
        x.call(0, 1, 0, 2000, 3000, false);
        for (int i = 1; i < 20; i++) {
            due("run(100)", x.run(100), 100 * i);
        }
        due("run(99)", x.run(99), 1999);
        due("run(2)", x.run(2), OUTSIDE);
        due("run(100)", x.run(100), OUTSIDE);
        due("count(6)", x.count(6), 1999);
        state(x, 0, WAITING);
        due("run(1)", x.run(1), 2000);
        state(x, 0, DONE, 1);
        began(x, 0, 1999);
        due("run(1)", x.run(1), OUTSIDE);
        due("run(100)", x.run(100), OUTSIDE);
        due("run(0)", x.run(0), OUTSIDE);
        due("count(6)", x.count(6), 2000);
        state(x, 1, WAITING, 0);
        OneVoice y = new OneVoice();
        for (int i = 0; i < 20; i++) {
            y.run(100);
        }
        due("2000 by hundreds", y.count(6), 2000);
    }

    private static void staleAtThisTick() {
        sentence("A CALL that is WAITING and whose STALE is this TICK or ahead is STALE now: never spoken.");
        OneVoice x = platforms("");
        x.call(0, 0, 0, 0, 1, false);
        x.call(0, 0, 0, 0, 5, false);
        x.call(0, 0, 0, 0, 6, false);
        x.call(0, 0, 0, 0, 7, false);
        x.run(1);
        state(x, 0, SPOKEN, 1);
        x.run(4);
        state(x, 1, WAITING);
        x.run(1);
        state(x, 1, STALE, 0);
        state(x, 2, WAITING);
        x.run(1);
        state(x, 2, STALE, 0);
        began(x, 2, NONE);
        state(x, 3, SPOKEN);
        began(x, 3, 6);
        due("it was so already", x.call(1, 1, 0, 0, 1, false), 4);
        due("it is so in the next", x.call(1, 1, 0, 0, 7, true), 5);
        due("it is not yet", x.call(1, 1, 0, 0, 8, false), 6);
        state(x, 4, WAITING);
        x.run(1);
        state(x, 4, STALE);
        state(x, 5, STALE);
        state(x, 6, DONE);
        due("ready in one tick alone", x.call(2, 1, 0, 20, 21, false), 7);
        x.run(30);
        state(x, 7, DONE);
        state(x, 4, STALE, 0);
        state(x, 2, STALE, 0);
    }

    private static void staleWaitsAlone() {
        sentence("A CALL that is WAITING and whose STALE is this TICK or ahead");
        OneVoice first = platforms("");
        first.call(0, 1, 0, 2, 3, false);
        first.call(0, 0, 0, 0, 9, false);
        first.run(4);
        due("the first call too", first.heard(0, 0), STALE);
        OneVoice x = platforms("");
        x.call(0, 0, 0, 0, 1, false);
        x.call(1, 0, 0, 0, 3, true);
        x.run(5);
        state(x, 0, SPOKEN, 5);
        state(x, 1, SPOKEN, 5);
        x.run(1);
        state(x, 0, DONE, 6);
        x.call(2, 3, 99, 6, 7, false);
        x.run(1);
        state(x, 2, MUTE);
        x.run(1);
        state(x, 2, MUTE);
        state(x, 0, DONE);
    }

    private static void staleDangerStopsNothing() {
        sentence("Then, CALLS of DANGER that are READY (READY at this TICK or ahead) and WAITING");
        OneVoice x = platforms("");
        x.call(0, 0, 0, 0, 9, false);
        x.run(1);
        x.call(0, 1, 0, 0, 1, true);
        x.call(0, 1, 0, 50, 60, true);
        x.run(5);
        state(x, 1, STALE);
        state(x, 0, DONE, 6);
        state(x, 2, WAITING);
    }

    private static void readyAtThisTick() {
        sentence("READY (READY at this TICK or ahead)");
        boolean[] kinds = {false, true};
        for (boolean danger : kinds) {
            OneVoice x = platforms("");
            x.call(0, 1, 0, 3, 9, danger);
            x.run(3);
            state(x, 0, WAITING, 0);
            began(x, 0, NONE);
            x.run(1);
            state(x, 0, DONE, 1);
            began(x, 0, 3);
            x.call(0, 1, 0, 0, 9, danger);
            x.run(1);
            began(x, 1, 4);
        }
        OneVoice y = platforms("");
        y.call(0, 0, 0, 0, 9, false);
        y.call(0, 1, 0, 2, 9, true);
        y.run(2);
        state(y, 0, SPOKEN, 2);
        y.run(1);
        state(y, 0, CUT_OFF, 3);
    }

    private static void dangerByNumbers() {
        sentence("Then, CALLS of DANGER that are READY (READY at this TICK or ahead) and WAITING, by numbers");
        OneVoice x = platforms("");
        x.call(0, 1, 0, 1, 9, true);
        x.call(0, 1, 0, 0, 9, false);
        x.call(0, 1, 0, 1, 9, true);
        x.call(0, 1, 0, 0, 9, true);
        x.run(1);
        began(x, 3, 0);
        x.run(3);
        began(x, 0, 1);
        began(x, 2, 2);
        began(x, 1, 3);
    }

    private static void toldToStopInReach() {
        sentence("CALLS without DANGER that are spoken at its PLATFORM or at one that HEARS it are told to stop");
        OneVoice x = platforms(";near 2 3;near 3 4");
        x.call(0, 0, 0, 0, 9, false);
        x.call(2, 0, 0, 0, 9, false);
        x.call(4, 0, 0, 0, 9, false);
        x.run(1);
        x.call(3, 1, 0, 1, 9, true);
        x.run(2);
        state(x, 0, SPOKEN, 3);
        state(x, 1, CUT_OFF, 3);
        state(x, 2, CUT_OFF, 3);
        x.run(1);
        began(x, 3, 3);
        x.run(2);
        state(x, 0, DONE, 6);
        OneVoice y = platforms(";near 0 1;near 1 2");
        y.call(2, 0, 0, 0, 9, false);
        y.call(0, 0, 0, 0, 9, false);
        y.run(1);
        y.call(0, 1, 0, 1, 9, true);
        y.run(5);
        state(y, 0, DONE, 6);
        state(y, 1, CUT_OFF, 3);
        began(y, 2, 3);
        OneVoice z = platforms("");
        z.call(0, 0, 0, 0, 9, true);
        z.run(1);
        z.call(0, 1, 0, 1, 90, true);
        z.run(5);
        due("not one of danger", z.heard(0, 0), DONE);
    }

    private static void toTheEndOfTheWord() {
        sentence("(each goes on to the end of the WORD of which its next SOUND is, then it is CUT OFF)");
        int[] ends = {3, 3, 3, 5, 5};
        for (int spoken = 1; spoken < 5; spoken++) {
            OneVoice x = platforms("");
            x.call(0, 0, 0, 0, 90, false);
            x.call(0, 1, 0, spoken, 90, true);
            int last = ends[spoken];
            x.run(last - 1);
            state(x, 0, SPOKEN, last - 1);
            x.run(1);
            state(x, 0, CUT_OFF, last);
            state(x, 1, WAITING);
            due("nobody speaks", x.speaks(0), NONE);
            x.run(1);
            began(x, 1, last);
            state(x, 0, CUT_OFF, last);
        }
    }

    private static void toldToStopForGood() {
        sentence("are told to stop");
        OneVoice x = platforms(";near 0 1");
        x.call(0, 0, 0, 0, 90, false);
        x.run(1);
        x.call(1, 1, 0, 1, 2, true);
        x.run(1);
        state(x, 0, SPOKEN, 2);
        tell(x, "far 0 1");
        x.run(1);
        state(x, 1, STALE);
        state(x, 0, CUT_OFF, 3);
    }

    private static void nothingAtAllIsSpoken() {
        sentence("it begins, if nothing at all is spoken there");
        OneVoice x = platforms(";near 0 1;near 1 2");
        x.call(0, 2, 0, 0, 90, true);
        x.call(1, 1, 0, 0, 90, true);
        x.call(2, 0, 0, 0, 90, true);
        x.run(2);
        began(x, 0, 0);
        state(x, 1, WAITING);
        began(x, 2, 0);
        x.run(4);
        state(x, 2, DONE, 6);
        state(x, 1, WAITING);
        x.run(1);
        began(x, 1, 6);
        OneVoice y = platforms("");
        y.call(0, 1, 0, 0, 90, false);
        y.call(0, 1, 0, 0, 90, true);
        y.run(1);
        due("danger of a later number first", y.heard(1, 0), DONE);
        state(y, 0, WAITING);
    }

    private static void othersByNumbers() {
        sentence("Then others that are READY and WAITING, by numbers: each begins, if at its PLATFORM and at those that HEAR it nothing is spoken");
        OneVoice x = platforms(";near 0 1;near 1 2");
        x.call(1, 2, 0, 1, 90, false);
        x.call(0, 2, 0, 0, 90, false);
        x.call(0, 2, 0, 0, 90, false);
        x.call(2, 2, 0, 0, 90, false);
        x.call(5, 2, 0, 0, 90, false);
        x.run(1);
        began(x, 1, 0);
        state(x, 2, WAITING);
        began(x, 3, 0);
        began(x, 4, 0);
        x.run(1);
        state(x, 0, WAITING);
        x.run(1);
        began(x, 0, 2);
        state(x, 2, WAITING);
        x.run(2);
        began(x, 2, 4);
    }

    private static void dangerThatIsReadyAndWaits() {
        sentence("and no CALL of DANGER that is READY WAITS at its PLATFORM or at one that HEARS it.");
        OneVoice x = platforms(";near 0 1;near 1 2;near 2 3");
        x.call(0, 0, 0, 0, 90, true);
        x.call(1, 1, 0, 1, 90, true);
        x.call(2, 1, 0, 0, 90, false);
        x.call(2, 1, 0, 1, 90, false);
        x.call(3, 1, 0, 1, 90, false);
        x.run(1);
        began(x, 2, 0);
        x.run(1);
        state(x, 3, WAITING);
        began(x, 4, 1);
        x.run(4);
        state(x, 0, DONE);
        state(x, 3, WAITING);
        x.run(1);
        began(x, 1, 6);
        state(x, 3, WAITING);
        x.run(1);
        began(x, 3, 7);
        OneVoice z = platforms(";near 0 1;near 1 2");
        z.call(1, 1, 0, 1, 90, true);
        z.call(0, 0, 0, 0, 90, true);
        z.call(2, 1, 0, 1, 90, false);
        z.run(6);
        due("it waits for the first call too", z.heard(2, 0), WAITING);
        z.run(2);
        began(z, 0, 6);
        began(z, 2, 7);
        OneVoice y = platforms(";near 0 1");
        y.call(0, 0, 0, 0, 90, true);
        y.call(0, 1, 0, 1, 2, true);
        tell(y, "far 0 1");
        y.run(1);
        tell(y, "near 0 1");
        y.call(1, 1, 0, 1, 90, false);
        y.run(6);
        state(y, 1, STALE);
        began(y, 2, 6);
    }

    private static void lastSound() {
        sentence("Then each CALL that is spoken says a SOUND; behind its last one it is DONE");
        OneVoice x = platforms("");
        x.call(0, 1, 0, 0, 90, false);
        x.call(1, 2, 0, 0, 90, false);
        x.call(2, 0, 0, 0, 90, true);
        x.run(1);
        state(x, 0, DONE, 1);
        began(x, 0, 0);
        due("speaks(0)", x.speaks(0), NONE);
        state(x, 1, SPOKEN, 1);
        x.run(1);
        state(x, 0, DONE, 1);
        state(x, 1, DONE, 2);
        x.run(3);
        state(x, 2, SPOKEN, 5);
        x.run(1);
        state(x, 2, DONE, 6);
        x.run(10);
        state(x, 2, DONE, 6);
    }

    private static void longestCall() {
        sentence("its SOUNDS are those of its WORDS, one behind the other; its LENGTH how many.");
        OneVoice x = platforms(";word 9 is abcabcab;word 27 is cbacbacb");
        due("told()", tell(x, "line 4 is ########"), 1);
        x.call(0, 4, 99, 0, 1, false);
        x.call(0, 1, 0, 0, 3000, false);
        x.run(100);
        x.run(27);
        state(x, 0, SPOKEN, 127);
        x.run(1);
        state(x, 0, DONE, 128);
        x.run(1);
        began(x, 1, 128);
        x.call(1, 4, 99, 129, 130, false);
        x.call(1, 1, 0, 129 + 120, 3000, true);
        x.run(100);
        x.run(27);
        state(x, 2, SPOKEN, 127);
        x.run(1);
        due("told to stop at its last word", x.heard(2, 0), DONE);
        due("all sounds", x.heard(2, 1), 128);
    }

    private static void cutOffOrDone() {
        sentence("behind the last one of a WORD, if it is told to stop, it is CUT OFF (DONE, if that was the last).");
        OneVoice x = platforms("");
        x.call(0, 0, 0, 0, 90, false);
        x.call(0, 1, 0, 5, 90, true);
        x.call(1, 0, 0, 0, 90, false);
        x.call(1, 1, 0, 4, 90, true);
        x.call(2, 2, 0, 0, 90, false);
        x.call(2, 1, 0, 1, 90, true);
        x.run(2);
        state(x, 4, DONE, 2);
        x.run(3);
        state(x, 2, CUT_OFF, 5);
        state(x, 0, SPOKEN, 5);
        x.run(1);
        state(x, 0, DONE, 6);
        began(x, 1, NONE);
        x.run(1);
        began(x, 1, 6);
    }

    private static void muteWords() {
        sentence("A CALL that CANNOT be spoken when it would begin (a WORD not told, or one of its WORDS not SAID by the PLATFORM's VOICE, each by itself) is MUTE then");
        OneVoice x = platforms(";word 3 is d;line 4 is 0 0 0 0 0 0 0 3");
        due("told()", tell(x, "line 5 is 0 0 0 0 0 0 0 4;line 6 is 3 0"), 2);
        int[] numbers = {2, 4, 20};
        for (int v : numbers) {
            x.call(0, 3, v, 0, 90, false);
        }
        x.call(1, 4, 0, 0, 90, false);
        x.call(2, 5, 0, 0, 90, true);
        x.call(3, 6, 0, 0, 90, true);
        x.run(1);
        state(x, 0, DONE, 1);
        state(x, 1, WAITING);
        for (int call = 3; call < 6; call++) {
            state(x, call, MUTE, 0);
            began(x, call, NONE);
        }
        x.run(1);
        state(x, 1, MUTE, 0);
        state(x, 2, MUTE, 0);
        OneVoice y = platforms("");
        y.piece(0, 1, 0, 0, 1);
        y.piece(1, 1, 0, 0, 1);
        y.wish(0, 1, 1);
        y.wish(1, 1, 1);
        y.worn(2, 1);
        tell(y, "word 4 is ab;line 4 is 4");
        y.call(0, 4, 0, 0, 90, false);
        y.call(1, 0, 0, 0, 90, false);
        y.call(2, 4, 0, 0, 90, false);
        y.call(3, 0, 0, 0, 90, false);
        y.run(1);
        state(y, 0, SPOKEN);
        due("c is not said by voice 1", y.heard(1, 0), MUTE);
        state(y, 2, SPOKEN);
        due("c is lost", y.heard(3, 0), MUTE);
    }

    private static void muteWhenItWouldBegin() {
        sentence("when it would begin");
        OneVoice x = platforms("");
        x.call(0, 0, 0, 0, 90, false);
        x.call(0, 3, 4, 0, 90, false);
        x.call(0, 3, 4, 0, 3, false);
        x.call(1, 3, 4, 5, 90, false);
        x.run(5);
        state(x, 1, WAITING);
        state(x, 2, STALE);
        state(x, 3, WAITING);
        tell(x, "word 4 is a");
        x.run(1);
        due("its word is told in time", x.heard(3, 0), DONE);
        tell(x, "word 4 is p");
        x.run(1);
        due("its word is told, but cannot be said", x.heard(1, 0), MUTE);
        tell(x, "word 4 is a");
        x.run(1);
        state(x, 1, MUTE, 0);
    }

    private static void muteTakesNoTime() {
        sentence("is MUTE then, and takes no time.");
        OneVoice x = platforms(";near 0 1");
        x.call(0, 3, 4, 0, 90, true);
        x.call(0, 3, 4, 0, 90, true);
        x.call(1, 3, 4, 0, 90, false);
        x.call(0, 3, 4, 0, 90, false);
        x.call(1, 1, 0, 0, 90, false);
        x.call(0, 1, 0, 0, 90, false);
        x.run(1);
        for (int call = 0; call < 4; call++) {
            state(x, call, MUTE, 0);
            began(x, call, NONE);
        }
        began(x, 4, 0);
        state(x, 5, WAITING);
        OneVoice y = platforms("");
        y.call(0, 0, 0, 0, 90, false);
        y.call(0, 3, 4, 1, 90, true);
        y.call(0, 1, 0, 1, 90, false);
        y.run(2);
        state(y, 1, WAITING);
        y.run(1);
        due("it is stopped for one that is mute then", y.heard(0, 0), CUT_OFF);
        y.run(1);
        state(y, 1, MUTE);
        began(y, 2, 3);
    }

    private static void textsToldAnew() {
        sentence("(Texts told anew change CALLS that WAIT alone: what is spoken has its SOUNDS.)");
        OneVoice x = platforms("");
        x.call(0, 0, 0, 0, 90, false);
        x.call(1, 0, 0, 2, 90, false);
        x.run(1);
        tell(x, "word 0 is a;word 1 is b;word 2 is p;line 0 is 0");
        x.run(1);
        state(x, 0, SPOKEN, 2);
        x.call(0, 0, 0, 2, 90, true);
        x.run(1);
        due("at the end of the word as it was", x.heard(0, 0), CUT_OFF);
        due("three sounds", x.heard(0, 1), 3);
        due("the new line", x.heard(1, 0), DONE);
        due("one sound", x.heard(1, 1), 1);
        OneVoice y = platforms("");
        y.call(0, 0, 0, 0, 90, false);
        y.run(1);
        tell(y, "word 0 is p;line 0 is 0 0 0 0 0 0 0 0");
        y.run(4);
        state(y, 0, SPOKEN, 5);
        y.run(1);
        state(y, 0, DONE, 6);
    }

    private static void hearEachOther() {
        sentence("they HEAR each other, or not;");
        OneVoice x = platforms(";near 0 5;near 5 0");
        x.call(0, 2, 0, 0, 90, false);
        x.call(5, 2, 0, 0, 90, false);
        x.run(1);
        due("near: 5 waits for 0", x.speaks(5), NONE);
        x.run(3);
        x.call(5, 2, 0, 4, 90, false);
        x.call(0, 2, 0, 4, 90, false);
        x.run(1);
        due("near: 0 waits for 5", x.speaks(0), NONE);
        due("told()", tell(x, "far 5 0"), 1);
        x.run(1);
        due("far: both", x.speaks(0), 3);
        OneVoice y = platforms("");
        y.call(0, 0, 0, 0, 90, false);
        y.call(1, 0, 0, 0, 90, false);
        y.run(1);
        tell(y, "near 0 1");
        y.run(5);
        due("near too late: both end", y.heard(0, 0), DONE);
        due("near too late: both end", y.heard(1, 0), DONE);
    }

    private static void everyPairHears() {
        sentence("A, B unlike PLATFORMS: they HEAR each other, or not");
        for (int a = 0; a < 6; a++) {
            for (int b = 0; b < 6; b++) {
                if (a != b) {
                    OneVoice x = platforms(";near " + a + " " + b);
                    pairSpeaks(x, a, b, NONE);
                    pairSpeaks(x, b, a, NONE);
                    due("told()", tell(x, "far " + a + " " + b), 1);
                    pairSpeaks(x, a, b, x.count(5) + 1);
                    pairSpeaks(x, b, a, x.count(5) + 1);
                }
            }
        }
    }

    /** A call at the one and one at the other: whether the second is spoken with the first. */
    private static void pairSpeaks(OneVoice x, int one, int other, int want) {
        int now = x.count(6);
        int first = x.call(one, 2, 0, now, 3000, false);
        x.call(other, 2, 0, now, 3000, false);
        x.run(1);
        due("first at " + one + " beside " + other, x.speaks(one), first);
        due("then at " + other + " beside " + one, x.speaks(other), want);
        x.run(9);
    }

    private static void heardWhat() {
        sentence("0 WAITING, 1 spoken, 2 DONE, 3 CUT OFF, 4 STALE, 5 MUTE (what 0), how many SOUNDS it said (1), the TICK in which it began (2; NONE).");
        OneVoice x = platforms("");
        x.call(0, 0, 0, 3, 90, false);
        due("what 0", x.heard(0, 0), WAITING);
        due("what 1", x.heard(0, 1), 0);
        due("what 2", x.heard(0, 2), NONE);
        x.run(5);
        due("what 0", x.heard(0, 0), SPOKEN);
        due("what 1", x.heard(0, 1), 2);
        due("what 2", x.heard(0, 2), 3);
        x.run(4);
        due("what 0", x.heard(0, 0), DONE);
        due("what 1", x.heard(0, 1), 6);
        due("what 2", x.heard(0, 2), 3);
        int[] outside = {MIN, -1, 3, 4, MAX};
        for (int what : outside) {
            due("what " + what, x.heard(0, what), OUTSIDE);
        }
    }

    private static void heardCalls() {
        sentence("(2; NONE). UNKNOWN; OUTSIDE.");
        OneVoice x = platforms("");
        due("no call yet", x.heard(0, 0), UNKNOWN);
        due("no call yet, what 3", x.heard(0, 3), UNKNOWN);
        x.call(0, 0, 0, 0, 90, false);
        x.call(0, 0, 0, 0, 90, false);
        int[] unknown = {MIN, -1, 2, 23, 24, MAX};
        for (int call : unknown) {
            due("call " + call, x.heard(call, 0), UNKNOWN);
            due("call " + call + ", what -1", x.heard(call, -1), UNKNOWN);
        }
        due("call 1", x.heard(1, 0), WAITING);
    }

    private static void speaks() {
        sentence("The CALL that is spoken at a PLATFORM; NONE. UNKNOWN.");
        OneVoice x = platforms("");
        for (int i = 0; i < 24; i++) {
            x.call(i == 23 ? 5 : 0, 0, 0, i == 0 || i == 23 ? 0 : 1000, 3000, false);
        }
        due("ahead of all ticks", x.speaks(0), NONE);
        x.run(1);
        due("call 0", x.speaks(0), 0);
        due("call 23", x.speaks(5), 23);
        for (int platform = 1; platform < 5; platform++) {
            due("none at " + platform, x.speaks(platform), NONE);
        }
        x.run(5);
        due("done at 0", x.speaks(0), NONE);
        due("done at 5", x.speaks(5), NONE);
        due("speaks(6)", x.speaks(6), UNKNOWN);
        due("speaks(-1)", x.speaks(-1), UNKNOWN);
    }

    private static void voiceWhat() {
        sentence("VOICE of a PLATFORM (what 0), for how many CHANGES its WISH is still kept (1). UNKNOWN; OUTSIDE.");
        OneVoice x = new OneVoice();
        due("no wish", x.voice(5, 1), 0);
        x.wish(5, 3, 5);
        due("what 0", x.voice(5, 0), 3);
        due("what 1", x.voice(5, 1), 5);
        int[] outside = {MIN, -1, 2, 3, MAX};
        for (int what : outside) {
            due("what " + what, x.voice(5, what), OUTSIDE);
            due("what " + what + " of platform 6", x.voice(6, what), UNKNOWN);
            due("what " + what + " of platform -1", x.voice(-1, what), UNKNOWN);
        }
    }

    private static void wishThroughChanges() {
        sentence("not one with a WISH, that is kept through as many CHANGES as were told (1 .. 5), then it is no WISH any more.");
        for (int n = 1; n <= 5; n++) {
            OneVoice x = new OneVoice();
            due("wish(2, 3, " + n + ")", x.wish(2, 3, n), 0);
            for (int left = n; left > 0; left--) {
                due("still kept", x.voice(2, 1), left);
                due("change(1)", x.change(1), 5);
                due("its voice", x.voice(2, 0), 3);
            }
            due("no wish any more", x.voice(2, 1), 0);
            due("its voice until the next", x.voice(2, 0), 3);
            due("change(1)", x.change(1), 6);
            due("its voice", x.voice(2, 0), 1);
            due("still none", x.voice(2, 1), 0);
        }
        OneVoice y = new OneVoice();
        y.wish(0, 1, 2);
        due("a refused change", y.change(4), OUTSIDE);
        due("counts nothing", y.voice(0, 1), 2);
    }

    private static void wishRefused() {
        sentence("kept through n CHANGES (1 .. 5): the VOICE that it had. UNKNOWN; OUTSIDE.");
        OneVoice x = new OneVoice();
        int[] outside = {MIN, -1, 0, 6, 7, MAX};
        for (int n : outside) {
            due("n " + n, x.wish(0, 1, n), OUTSIDE);
            due("n " + n + " at platform 6", x.wish(6, 1, n), UNKNOWN);
        }
        due("voice 4", x.wish(0, 4, 1), OUTSIDE);
        due("voice -1", x.wish(0, -1, 1), OUTSIDE);
        due("voice 4 at platform -1", x.wish(-1, 4, 1), UNKNOWN);
        due("nothing wished: voice", x.voice(0, 0), 0);
        due("nothing wished: changes", x.voice(0, 1), 0);
        due("change(2)", x.change(2), 6);
    }

    private static void wishAnew() {
        sentence("A WISH: a PLATFORM has a VOICE");
        OneVoice x = new OneVoice();
        due("the first", x.wish(1, 2, 5), 0);
        due("at once", x.voice(1, 0), 2);
        due("another", x.wish(1, 3, 1), 2);
        due("it stands for the first", x.voice(1, 1), 1);
        due("the same again", x.wish(1, 3, 2), 3);
        due("from now on", x.voice(1, 1), 2);
        due("none at another platform", x.voice(0, 1), 0);
        due("voice of another platform", x.voice(2, 0), 0);
    }

    private static void change() {
        sentence("A CHANGE to a VOICE: how many PLATFORMS have it then. OUTSIDE.");
        OneVoice x = new OneVoice();
        due("to what all have", x.change(0), 6);
        due("to another", x.change(3), 6);
        for (int platform = 0; platform < 6; platform++) {
            due("wish", x.wish(platform, platform % 3, 5), 3);
        }
        due("all have wishes: none has it", x.change(3), 0);
        due("all have wishes: two have it", x.change(2), 2);
        int[] outside = {MIN, -1, 4, MAX};
        for (int voice : outside) {
            due("change(" + voice + ")", x.change(voice), OUTSIDE);
        }
        due("kept through three more", x.voice(5, 1), 3);
        x.change(0);
        x.change(0);
        due("the fifth", x.change(1), 2);
        due("the sixth", x.change(1), 6);
    }
}
