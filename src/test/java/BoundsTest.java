import java.util.ArrayList;
import java.util.List;

/**
 * Each sentence of the document that names a boundary case, by a test of its own: the last value
 * that is taken, the first that is refused, on each side, and that the refused call changes
 * nothing. The sentence stands above its test.
 */
public final class BoundsTest {
    private static final int NONE = -1;
    private static final int MOST_CALLS = 512;

    // Next to the bounds, at the ends of int, where a shift by the number wraps around (32, 41),
    // and where 16 times the number does (2 to the power of 28).
    private static final int[] NO_ROUTER = {-1, 10, -10, 16, 31, 32, 41, -32, 1 << 28,
        (1 << 28) + 9, Integer.MIN_VALUE, Integer.MIN_VALUE + 9, Integer.MAX_VALUE};

    // -16, -1, 16 and 17 are where the next router's and the last one's sources would stand.
    private static final int[] NO_SOURCE = {-1, 16, -16, 17, 32, 159, 160, Integer.MIN_VALUE,
        Integer.MAX_VALUE};

    // 100 times 42949673 wraps around to 4.
    private static final int[] NO_DISTANCE = {-1, 10000, -9999, 42949673, Integer.MIN_VALUE,
        Integer.MAX_VALUE};

    private static int wrong = 0;

    /** A ClaimBench that finds fault with a test that leans on what comes after 512 calls. */
    private static final class Bench {
        private final ClaimBench inner = new ClaimBench();
        private int calls = 0;

        private ClaimBench counted() {
            calls++;
            if (calls == MOST_CALLS + 1) {
                fail("a test makes more calls than the document promises answers for");
            }
            return inner;
        }

        int tick(int n) {
            return counted().tick(n);
        }

        boolean forward(int r, int s, boolean on) {
            return counted().forward(r, s, on);
        }

        boolean place(int r, int s, boolean straight, int distance) {
            return counted().place(r, s, straight, distance);
        }

        boolean there(int r, boolean on) {
            return counted().there(r, on);
        }

        boolean deaf(int r, boolean on) {
            return counted().deaf(r, on);
        }

        int data(int r, int s) {
            return counted().data(r, s);
        }

        int said(int k) {
            return counted().said(k);
        }

        int claim(int r, int s) {
            return counted().claim(r, s);
        }

        int kept(int r, int s) {
            return counted().kept(r, s);
        }

        boolean lost(int r, int s) {
            return counted().lost(r, s);
        }

        int sends(int s) {
            return counted().sends(s);
        }

        int look(int what) {
            return counted().look(what);
        }
    }

    /** A call, with its answer as a number (a boolean counts 1 or 0). */
    private interface Call {
        int on(Bench bench);
    }

    private interface Probe {
        void ask(Bench bench, List<Integer> answers);
    }

    private static void fail(String what) {
        wrong++;
        System.out.println(what);
    }

    private static void due(String what, int got, int want) {
        if (got != want) {
            fail(what + " answered " + got + ", due is " + want);
        }
    }

    private static void due(String what, boolean got, boolean want) {
        due(what, number(got), number(want));
    }

    private static int number(boolean answer) {
        return answer ? 1 : 0;
    }

    public static void main(String[] args) {
        terms();
        promisesOneToSix();
        promiseSeven();
        promisesEightToThirteen();
        System.out.println(wrong == 0 ? "all bounds hold" : wrong + " answers are not as due");
        if (wrong != 0) {
            System.exit(1);
        }
    }

    private static void terms() {
        lastOfTheCalls();
        timeAfterAllCalls();
        noneIsMinusOne();
        timeIsZeroAtFirst();
        routersAllOnTheWireAtFirst();
        atFirstNotNotZero();
        claimOfTheStraightAndOfOthers();
        betterByFirstNumber();
        betterByDistance();
        betterByGreaterRouter();
        keepsAtMostOne();
        keptAsItWasSaid();
        keptTillTimeAndSixty();
        keptTillTimeAndSixtyOfALaterTime();
        countsWhileThere();
        lostByItsOwnAsThatIsNow();
        sendsIfThere();
        sendsIfItForwards();
        sendsIfNotLost();
    }

    private static void promisesOneToSix() {
        newObjectIsAsAtFirst();
        tickTaken();
        tickRefused();
        tickAtTheLastTime();
        forwardTaken();
        forwardRefused();
        placeTaken();
        placeRefusedForRouterOrSource();
        placeRefusedForDistance();
        thereTaken();
        thereRefused();
        deafTaken();
        deafRefused();
    }

    private static void promiseSeven() {
        dataTaken();
        dataRefused();
        dataRefusedWhenGone();
        dataNeedNotSend();
        dataWithNothingSaid();
        dataIsNotAnsweredByItsOwnRouter();
        dataIsAnsweredByTheThere();
        dataIsAnsweredByTheHearing();
        dataIsAnsweredByTheSending();
        dataIsAnsweredByNumbers();
        saidIsHeardFromTheFirstOn();
        saidIsHeardByNumbers();
        saidIsNotHeardByItsOwnRouter();
        saidIsNotHeardByTheGoneAndTheDeaf();
        keepsIfItKeepsNone();
        keepsIfItsOwnTimeIsOver();
        keepsIfTheOtherIsGone();
        keepsTheBetter();
        keepsNotTheWorse();
        keepsTheWorseOfTheSameRouter();
        keepsTheSameAnew();
        answersIfItSends();
        answersOnceNoLongerLost();
        answersIfItsOwnIsBetter();
        longestRow();
    }

    private static void promisesEightToThirteen() {
        saidTaken();
        saidWithoutARow();
        saidOfTheLatestRow();
        claimTaken();
        claimRefused();
        keptTaken();
        keptRefused();
        lostTaken();
        lostRefused();
        sendsTaken();
        sendsRefused();
        lookTaken();
        lookRefused();
    }

    // ---- what a refused call may not change ----

    /**
     * A state with something in every corner: first and last routers and sources, claims kept from
     * two times, a router that is gone, one that is deaf, one that is lost, and a row.
     */
    private static Bench fullState() {
        Bench bench = new Bench();
        for (int r = 0; r < 10; r += 3) {
            bench.forward(r, 0, true);
            bench.forward(r, 15, true);
        }
        bench.forward(5, 7, true);
        bench.forward(8, 7, true);
        bench.place(0, 0, true, 3);
        bench.place(9, 15, true, 9999);
        bench.place(0, 15, false, 9999);
        bench.place(5, 7, false, 1);
        bench.tick(100);
        bench.data(1, 0);
        bench.deaf(8, true);
        bench.tick(17);
        bench.data(2, 7);
        bench.there(4, false);
        bench.data(1, 15);
        return bench;
    }

    private static void askAllThatIsSeen(Bench bench, List<Integer> answers) {
        for (int what = 0; what < 4; what++) {
            answers.add(bench.look(what));
        }
        askRow(bench, answers);
        for (int s = 0; s < 16; s++) {
            answers.add(bench.sends(s));
            for (int r = 0; r < 10; r++) {
                answers.add(bench.claim(r, s));
                answers.add(bench.kept(r, s));
            }
        }
    }

    private static void askRow(Bench bench, List<Integer> answers) {
        int router = 0;
        for (int k = 0; k < 60 && router != NONE; k++) {
            router = bench.said(k);
            answers.add(router);
        }
    }

    private static void askWhoIsLost(Bench bench, List<Integer> answers) {
        for (int s = 0; s < 16; s++) {
            for (int r = 0; r < 10; r++) {
                answers.add(number(bench.lost(r, s)));
            }
        }
    }

    // The times at which claims are kept no longer are not seen but by waiting for them.
    private static void askWhatIsKeptLater(Bench bench, List<Integer> answers) {
        int[] waits = {42, 1, 16, 1};
        int[] usedSources = {0, 7, 15};
        for (int wait : waits) {
            answers.add(bench.tick(wait));
            for (int s : usedSources) {
                for (int r = 0; r < 10; r++) {
                    answers.add(bench.kept(r, s));
                }
            }
        }
    }

    // Who forwards is hidden by who is lost or gone.
    private static void askWhoForwards(Bench bench, List<Integer> answers) {
        bench.tick(100);
        for (int r = 0; r < 10; r++) {
            bench.there(r, true);
        }
        for (int s = 0; s < 16; s++) {
            answers.add(bench.sends(s));
        }
        for (int s = 0; s < 16; s++) {
            answers.add(bench.data(1, s));
            askRow(bench, answers);
        }
    }

    private static void dueUnchanged(String what, Call refused) {
        Probe[] probes = {BoundsTest::askAllThatIsSeen, BoundsTest::askWhoIsLost,
            BoundsTest::askWhatIsKeptLater, BoundsTest::askWhoForwards};
        for (Probe probe : probes) {
            List<Integer> without = new ArrayList<>();
            probe.ask(fullState(), without);
            Bench bench = fullState();
            refused.on(bench);
            List<Integer> with = new ArrayList<>();
            probe.ask(bench, with);
            if (!with.equals(without)) {
                fail(what + " changes what is answered: " + with + ", due is " + without);
            }
        }
    }

    private static void dueRefused(String what, int answer, Call call) {
        due(what, call.on(fullState()), answer);
        dueUnchanged(what, call);
    }

    // ---- what the tests begin with ----

    private static Bench withForwarders(int source, int... routers) {
        Bench bench = new Bench();
        for (int r : routers) {
            due("forward(" + r + ")", bench.forward(r, source, true), true);
        }
        return bench;
    }

    private static void dueRow(String what, Bench bench, int... routers) {
        for (int k = 0; k < routers.length; k++) {
            due(what + ": said(" + k + ")", bench.said(k), routers[k]);
        }
        due(what + ": behind the row", bench.said(routers.length), NONE);
    }

    // ---- What it is ----

    // "An object is used for at most 512 calls after it has been made"
    private static void lastOfTheCalls() {
        Bench bench = withForwarders(0, 0, 1, 2, 3, 4, 5, 6, 7, 8, 9);
        for (int i = 1; i <= 250; i++) {
            due("512: tick " + i, bench.tick(60), 60 * i);
            due("512: data " + i, bench.data(9, 0), 104);
        }
        due("512: the last but one", bench.said(103), 9);
        due("512: the last", bench.look(3), 26000);
        due("512: calls made", bench.calls, 512);
    }

    // The same sentence, with TIME as late as it can be.
    private static void timeAfterAllCalls() {
        Bench bench = withForwarders(0, 9);
        for (int i = 1; i <= 508; i++) {
            bench.tick(100);
        }
        due("512: data late", bench.data(0, 0), 1);
        due("512: kept late", bench.kept(0, 0), 1000009);
        due("512: TIME late", bench.tick(59), 50859);
        due("512: calls made late", bench.calls, 512);
    }

    // ---- Terms ----

    // "The constants: NONE = -1: None."
    private static void noneIsMinusOne() {
        due("NONE", ClaimBench.NONE, -1);
    }

    // "TIME is 0 at first."
    private static void timeIsZeroAtFirst() {
        Bench bench = new Bench();
        due("at first: TIME", bench.look(0), 0);
        due("at first: the first tick", bench.tick(1), 1);
    }

    // "There are ROUTERS 0 .. 9, all on the wire"; "THERE (at first)", "it HEARS (at first)"
    private static void routersAllOnTheWireAtFirst() {
        Bench bench = new Bench();
        due("at first: THERE", bench.look(1), 1023);
        due("at first: DEAF", bench.look(2), 0);
        for (int r = 0; r < 10; r++) {
            due("at first: there(" + r + ")", bench.there(r, true), true);
            due("at first: deaf(" + r + ")", bench.deaf(r, false), false);
        }
    }

    // "whether it FORWARDS it, whether it is STRAIGHT, its DISTANCE (0 .. 9999); at first not,
    // not, 0."
    private static void atFirstNotNotZero() {
        Bench bench = new Bench();
        for (int s = 0; s < 16; s++) {
            due("at first: sends(" + s + ")", bench.sends(s), 0);
            for (int r = 0; r < 10; r++) {
                due("at first: claim(" + r + ", " + s + ")", bench.claim(r, s), 1000000 + r);
            }
        }
    }

    // "Its CLAIM: 0 if it is STRAIGHT, else 1; then the DISTANCE; then the ROUTER."
    private static void claimOfTheStraightAndOfOthers() {
        Bench bench = new Bench();
        bench.place(6, 2, true, 10);
        due("claim: STRAIGHT", bench.claim(6, 2), 1006);
        bench.place(6, 2, false, 10);
        due("claim: not STRAIGHT", bench.claim(6, 2), 1001006);
        bench.place(6, 2, false, 11);
        due("claim: one DISTANCE more", bench.claim(6, 2), 1001106);
    }

    // "Of two CLAIMS the better one has the lesser first number"
    private static void betterByFirstNumber() {
        dueBetter("first number against all else", 3, true, 9999, 8, false, 0);
        dueBetter("first number against all else", 8, true, 9999, 3, false, 0);
    }

    // "then the lesser DISTANCE"
    private static void betterByDistance() {
        dueBetter("DISTANCE by one, least", 3, true, 0, 8, true, 1);
        dueBetter("DISTANCE by one, greatest", 3, true, 9998, 8, true, 9999);
        dueBetter("DISTANCE by one, not STRAIGHT, least", 3, false, 0, 8, false, 1);
        dueBetter("DISTANCE by one, not STRAIGHT, greatest", 3, false, 9998, 8, false, 9999);
        dueBetter("DISTANCE by one, for the greater ROUTER", 8, false, 99, 3, false, 100);
    }

    // "then the greater ROUTER."
    private static void betterByGreaterRouter() {
        dueBetter("ROUTER by one, least", 1, true, 0, 0, true, 0);
        dueBetter("ROUTER by one, greatest", 9, false, 9999, 8, false, 9999);
        dueBetter("ROUTER, first and last", 9, false, 5, 0, false, 5);
    }

    private static void dueBetter(String what, int a, boolean aStraight, int aDistance, int b,
            boolean bStraight, int bDistance) {
        Bench bench = withForwarders(0, a, b);
        bench.place(a, 0, aStraight, aDistance);
        bench.place(b, 0, bStraight, bDistance);
        bench.data(5, 0);
        due("better: " + what + ": who SENDS", bench.sends(0), 1 << a);
        due("better: " + what + ": worse is LOST", bench.lost(b, 0), true);
        due("better: " + what + ": better is not", bench.lost(a, 0), false);
        due("better: " + what + ": kept by a third one", bench.kept(5, 0), bench.claim(a, 0));
    }

    // "A ROUTER keeps for a SOURCE at most one CLAIM of another one"
    private static void keepsAtMostOne() {
        Bench bench = withForwarders(4, 1, 2);
        bench.data(0, 4);
        due("at most one: the better", bench.kept(0, 4), 1000002);
        // Had 0 kept the CLAIM of 1 beside it, that would count now.
        bench.there(2, false);
        due("at most one: none beside it", bench.kept(0, 4), NONE);
        due("at most one: so 0 is not LOST", bench.lost(0, 4), false);
    }

    // "as that was when it was said"
    private static void keptAsItWasSaid() {
        Bench bench = withForwarders(4, 8);
        bench.place(8, 4, true, 5);
        bench.data(0, 4);
        bench.place(8, 4, false, 9999);
        due("as said: kept", bench.kept(2, 4), 508);
        due("as said: own", bench.claim(8, 4), 1999908);
        bench.place(2, 4, true, 6);
        due("as said: LOST by it", bench.lost(2, 4), true);
    }

    // "till TIME and 60 (while TIME is less)"
    private static void keptTillTimeAndSixty() {
        Bench bench = withForwarders(0, 1, 2);
        bench.data(0, 0);
        due("60: at once", bench.kept(1, 0), 1000002);
        bench.tick(59);
        due("60: the last TIME", bench.kept(1, 0), 1000002);
        due("60: the last TIME, LOST", bench.lost(1, 0), true);
        due("60: the last TIME, SENDS", bench.sends(0), 4);
        bench.tick(1);
        due("60: the first TIME without", bench.kept(1, 0), NONE);
        due("60: the first TIME without, LOST", bench.lost(1, 0), false);
        due("60: the first TIME without, SENDS", bench.sends(0), 6);
    }

    // The same sentence: the 60 begin when it was said, and begin anew when it is said again.
    private static void keptTillTimeAndSixtyOfALaterTime() {
        Bench bench = withForwarders(15, 9);
        bench.tick(100);
        bench.data(0, 15);
        bench.tick(59);
        bench.data(0, 15);
        bench.tick(59);
        due("60 anew: the last TIME", bench.kept(0, 15), 1000009);
        bench.tick(1);
        due("60 anew: the first TIME without", bench.kept(0, 15), NONE);
    }

    // "it counts only while the ROUTER that said it is THERE."
    private static void countsWhileThere() {
        Bench bench = withForwarders(0, 1, 2);
        bench.data(0, 0);
        bench.there(2, false);
        due("counts: while GONE", bench.kept(1, 0), NONE);
        due("counts: while GONE, LOST", bench.lost(1, 0), false);
        due("counts: while GONE, SENDS", bench.sends(0), 2);
        bench.tick(59);
        bench.there(2, true);
        due("counts: THERE again at the last TIME", bench.kept(1, 0), 1000002);
        due("counts: THERE again, LOST", bench.lost(1, 0), true);
        bench.tick(1);
        due("counts: no longer than its TIME", bench.kept(1, 0), NONE);
    }

    // "A ROUTER is LOST for a SOURCE if it keeps a CLAIM (one that counts) that is better than its
    // own as that is now"
    private static void lostByItsOwnAsThatIsNow() {
        Bench bench = withForwarders(0, 4);
        bench.place(4, 0, false, 30);
        bench.data(0, 0);
        bench.place(3, 0, false, 29);
        due("LOST: nearer by one", bench.lost(3, 0), false);
        bench.place(3, 0, false, 30);
        due("LOST: as near, lesser ROUTER", bench.lost(3, 0), true);
        bench.place(5, 0, false, 30);
        due("LOST: as near, greater ROUTER", bench.lost(5, 0), false);
        bench.place(5, 0, false, 31);
        due("LOST: farther by one", bench.lost(5, 0), true);
        bench.place(5, 0, true, 9999);
        due("LOST: STRAIGHT", bench.lost(5, 0), false);
        due("LOST: without a CLAIM kept", bench.lost(4, 0), false);
    }

    // "it SENDS if it is THERE"
    private static void sendsIfThere() {
        Bench bench = withForwarders(0, 6);
        due("SENDS: THERE", bench.sends(0), 64);
        bench.there(6, false);
        due("SENDS: GONE", bench.sends(0), 0);
        bench.there(6, true);
        bench.deaf(6, true);
        due("SENDS: THERE again, though DEAF", bench.sends(0), 64);
    }

    // "FORWARDS"
    private static void sendsIfItForwards() {
        Bench bench = withForwarders(0, 6);
        due("SENDS: FORWARDS", bench.sends(0), 64);
        bench.forward(6, 0, false);
        due("SENDS: FORWARDS no more", bench.sends(0), 0);
    }

    // "and is not LOST."
    private static void sendsIfNotLost() {
        Bench bench = withForwarders(0, 6, 7);
        due("SENDS: not LOST", bench.sends(0), 64 + 128);
        bench.data(0, 0);
        due("SENDS: LOST", bench.sends(0), 128);
        bench.place(6, 0, true, 0);
        due("SENDS: LOST no more", bench.sends(0), 64 + 128);
    }

    // ---- Promise 1 ----

    // "As at first."
    private static void newObjectIsAsAtFirst() {
        Bench used = fullState();
        due("1: the used one", used.look(0), 117);
        Bench bench = new Bench();
        List<Integer> answers = new ArrayList<>();
        askAllThatIsSeen(bench, answers);
        List<Integer> wanted = new ArrayList<>(List.of(0, 1023, 0, 0, NONE));
        for (int s = 0; s < 16; s++) {
            wanted.add(0);
            for (int r = 0; r < 10; r++) {
                wanted.add(1000000 + r);
                wanted.add(NONE);
            }
        }
        if (!answers.equals(wanted)) {
            fail("1: a new object answers " + answers + ", due is " + wanted);
        }
    }

    // ---- Promise 2 ----

    // "n TICKS, 1 .. 100: TIME"
    private static void tickTaken() {
        Bench bench = new Bench();
        due("2: the least", bench.tick(1), 1);
        due("2: the most", bench.tick(100), 101);
        due("2: the last but one", bench.tick(99), 200);
        due("2: TIME", bench.look(0), 200);
    }

    // "NONE for another n"
    private static void tickRefused() {
        int[] bad = {0, 101, -1, -100, Integer.MIN_VALUE, Integer.MAX_VALUE};
        for (int n : bad) {
            dueRefused("2: tick(" + n + ")", NONE, bench -> bench.tick(n));
        }
    }

    // "or if it would be above 100000." No 512 calls come there, and what later ones answer is
    // free; but there is no other way to see this sentence hold.
    private static void tickAtTheLastTime() {
        ClaimBench bench = new ClaimBench();
        for (int i = 1; i < 1000; i++) {
            bench.tick(100);
        }
        due("2: one short", bench.tick(99), 99999);
        due("2: above by one", bench.tick(2), NONE);
        due("2: above by most", bench.tick(100), NONE);
        due("2: TIME after the refused", bench.look(0), 99999);
        due("2: the last TIME", bench.tick(1), 100000);
        due("2: above the last TIME", bench.tick(1), NONE);
        due("2: TIME at the last", bench.look(0), 100000);
    }

    // ---- Promise 3 ----

    // "Whether a ROUTER FORWARDS a SOURCE: true"
    private static void forwardTaken() {
        int[] routers = {0, 9};
        int[] sources = {0, 15};
        for (int r : routers) {
            for (int s : sources) {
                String what = "3: forward(" + r + ", " + s + ")";
                Bench bench = new Bench();
                due(what + " off, when off", bench.forward(r, s, false), true);
                due(what + ", nothing sent", bench.sends(s), 0);
                due(what + " on", bench.forward(r, s, true), true);
                due(what + " on, when on", bench.forward(r, s, true), true);
                for (int other = 0; other < 16; other++) {
                    due(what + ", sends(" + other + ")", bench.sends(other),
                            other == s ? 1 << r : 0);
                }
                due(what + " off", bench.forward(r, s, false), true);
                due(what + ", nothing sent then", bench.sends(s), 0);
            }
        }
    }

    // "false if there is none such."
    private static void forwardRefused() {
        boolean[] both = {true, false};
        for (boolean on : both) {
            for (int r : NO_ROUTER) {
                dueRefused("3: forward(" + r + ", 0, " + on + ")", 0,
                        bench -> number(bench.forward(r, 0, on)));
                dueRefused("3: forward(" + r + ", 15, " + on + ")", 0,
                        bench -> number(bench.forward(r, 15, on)));
            }
            for (int s : NO_SOURCE) {
                dueRefused("3: forward(0, " + s + ", " + on + ")", 0,
                        bench -> number(bench.forward(0, s, on)));
                dueRefused("3: forward(9, " + s + ", " + on + ")", 0,
                        bench -> number(bench.forward(9, s, on)));
            }
            // Both are wrong, and their cell, 16 times the one and the other, is not.
            dueRefused("3: forward(-1, 16, " + on + ")", 0,
                    bench -> number(bench.forward(-1, 16, on)));
            dueRefused("3: forward(10, -1, " + on + ")", 0,
                    bench -> number(bench.forward(10, -1, on)));
        }
    }

    // ---- Promise 4 ----

    // "Whether it is STRAIGHT for a SOURCE, and its DISTANCE: true"; "DISTANCE (0 .. 9999)"
    private static void placeTaken() {
        int[] routers = {0, 9};
        int[] sources = {0, 15};
        for (int r : routers) {
            for (int s : sources) {
                String what = "4: place(" + r + ", " + s + ")";
                Bench bench = new Bench();
                due(what + " STRAIGHT, least", bench.place(r, s, true, 0), true);
                due(what + " STRAIGHT, least claim", bench.claim(r, s), r);
                due(what + " STRAIGHT, most", bench.place(r, s, true, 9999), true);
                due(what + " STRAIGHT, most claim", bench.claim(r, s), 999900 + r);
                due(what + " not, least", bench.place(r, s, false, 0), true);
                due(what + " not, least claim", bench.claim(r, s), 1000000 + r);
                due(what + " not, most", bench.place(r, s, false, 9999), true);
                dueOthersAtFirst(what, bench, r, s, 1999900 + r);
            }
        }
    }

    private static void dueOthersAtFirst(String what, Bench bench, int r, int s, int claim) {
        for (int otherRouter = 0; otherRouter < 10; otherRouter++) {
            for (int otherSource = 0; otherSource < 16; otherSource++) {
                boolean same = otherRouter == r && otherSource == s;
                due(what + ", claim(" + otherRouter + ", " + otherSource + ")",
                        bench.claim(otherRouter, otherSource),
                        same ? claim : 1000000 + otherRouter);
            }
        }
    }

    // "false if there is none such." (of ROUTERS and SOURCES)
    private static void placeRefusedForRouterOrSource() {
        for (int r : NO_ROUTER) {
            dueRefused("4: place(" + r + ", 0)", 0,
                    bench -> number(bench.place(r, 0, true, 1)));
            dueRefused("4: place(" + r + ", 15)", 0,
                    bench -> number(bench.place(r, 15, false, 9998)));
        }
        for (int s : NO_SOURCE) {
            dueRefused("4: place(0, " + s + ")", 0,
                    bench -> number(bench.place(0, s, true, 1)));
            dueRefused("4: place(9, " + s + ")", 0,
                    bench -> number(bench.place(9, s, false, 9998)));
        }
        dueRefused("4: place(-1, 16)", 0, bench -> number(bench.place(-1, 16, true, 1)));
        dueRefused("4: place(10, -1)", 0, bench -> number(bench.place(10, -1, true, 1)));
    }

    // "false if there is none such." (of DISTANCES): STRAIGHT is left as it was, too.
    private static void placeRefusedForDistance() {
        for (int distance : NO_DISTANCE) {
            dueRefused("4: place, STRAIGHT, " + distance, 0,
                    bench -> number(bench.place(9, 0, true, distance)));
            dueRefused("4: place, not STRAIGHT, " + distance, 0,
                    bench -> number(bench.place(0, 0, false, distance)));
            dueRefused("4: place, last ones, " + distance, 0,
                    bench -> number(bench.place(9, 15, false, distance)));
        }
    }

    // ---- Promise 5 ----

    // "A ROUTER is THERE, or GONE: what it was (true: THERE)"
    private static void thereTaken() {
        Bench bench = new Bench();
        int[] routers = {0, 9};
        for (int r : routers) {
            String what = "5: there(" + r + ")";
            due(what + " on, when THERE", bench.there(r, true), true);
            due(what + " off, when THERE", bench.there(r, false), true);
            due(what + " GONE alone", bench.look(1), 1023 - (1 << r));
            due(what + " off, when GONE", bench.there(r, false), false);
            due(what + " on, when GONE", bench.there(r, true), false);
            due(what + " all THERE", bench.look(1), 1023);
        }
        for (int r = 0; r < 10; r++) {
            bench.there(r, false);
        }
        due("5: all GONE", bench.look(1), 0);
    }

    // "false, too, if there is none such."
    private static void thereRefused() {
        for (int r : NO_ROUTER) {
            dueRefused("5: there(" + r + ", true)", 0, bench -> number(bench.there(r, true)));
            dueRefused("5: there(" + r + ", false)", 0, bench -> number(bench.there(r, false)));
        }
    }

    // ---- Promise 6 ----

    // "A ROUTER is DEAF, or HEARS: whether it was DEAF"
    private static void deafTaken() {
        Bench bench = new Bench();
        int[] routers = {0, 9};
        for (int r : routers) {
            String what = "6: deaf(" + r + ")";
            due(what + " off, when it HEARS", bench.deaf(r, false), false);
            due(what + " on, when it HEARS", bench.deaf(r, true), false);
            due(what + " DEAF alone", bench.look(2), 1 << r);
            due(what + " on, when DEAF", bench.deaf(r, true), true);
            due(what + " off, when DEAF", bench.deaf(r, false), true);
            due(what + " none DEAF", bench.look(2), 0);
        }
        for (int r = 0; r < 10; r++) {
            bench.deaf(r, true);
        }
        due("6: all DEAF", bench.look(2), 1023);
        due("6: all THERE yet", bench.look(1), 1023);
    }

    // "false, too, if there is none such."
    private static void deafRefused() {
        for (int r : NO_ROUTER) {
            dueRefused("6: deaf(" + r + ", true)", 0, bench -> number(bench.deaf(r, true)));
            dueRefused("6: deaf(" + r + ", false)", 0, bench -> number(bench.deaf(r, false)));
        }
    }

    // ---- Promise 7 ----

    // "DATA of SOURCE s from ROUTER r: how many CLAIMS were said"
    private static void dataTaken() {
        int[] routers = {0, 9};
        int[] sources = {0, 15};
        for (int r : routers) {
            for (int s : sources) {
                Bench bench = withForwarders(s, 4, 5);
                String what = "7: data(" + r + ", " + s + ")";
                due(what, bench.data(r, s), 3);
                dueRow(what, bench, 4, 5, 5);
            }
        }
    }

    // "NONE if there is none such": the row, what is kept and the count stay, too.
    private static void dataRefused() {
        for (int r : NO_ROUTER) {
            dueRefused("7: data(" + r + ", 0)", NONE, bench -> bench.data(r, 0));
            dueRefused("7: data(" + r + ", 15)", NONE, bench -> bench.data(r, 15));
        }
        for (int s : NO_SOURCE) {
            dueRefused("7: data(0, " + s + ")", NONE, bench -> bench.data(0, s));
            dueRefused("7: data(9, " + s + ")", NONE, bench -> bench.data(9, s));
        }
        dueRefused("7: data(-1, 16)", NONE, bench -> bench.data(-1, 16));
        dueRefused("7: data(10, -1)", NONE, bench -> bench.data(10, -1));
    }

    // "or r is GONE."
    private static void dataRefusedWhenGone() {
        dueRefused("7: data of a GONE one", NONE, bench -> bench.data(4, 0));
        dueRefused("7: data of a GONE one, last source", NONE, bench -> bench.data(4, 15));
        Bench bench = withForwarders(0, 1);
        bench.there(9, false);
        due("7: GONE", bench.data(9, 0), NONE);
        bench.there(9, true);
        due("7: THERE again", bench.data(9, 0), 1);
    }

    // "(It need not SEND.)"
    private static void dataNeedNotSend() {
        Bench bench = withForwarders(3, 1, 6);
        due("7: from one that FORWARDS not", bench.data(2, 3), 3);
        due("7: from one that is LOST", number(bench.lost(1, 3)) * bench.data(1, 3), 1);
        bench.deaf(2, true);
        due("7: from one that is DEAF", bench.data(2, 3), 1);
        due("7: from one that SENDS", bench.data(6, 3), 0);
    }

    // "how many CLAIMS were said": none is 0, not NONE.
    private static void dataWithNothingSaid() {
        Bench bench = new Bench();
        due("7: none FORWARDS", bench.data(0, 0), 0);
        bench.forward(0, 0, true);
        due("7: none but its own ROUTER", bench.data(0, 0), 0);
        due("7: said in all", bench.look(3), 0);
        for (int r = 1; r < 10; r++) {
            bench.forward(r, 0, true);
            bench.there(r, false);
        }
        due("7: all others GONE", bench.data(0, 0), 0);
    }

    // "each other ROUTER": the one that DATA is from says nothing at first, but answers.
    private static void dataIsNotAnsweredByItsOwnRouter() {
        Bench bench = withForwarders(0, 3, 4);
        due("7: from the worse one", bench.data(3, 0), 1);
        dueRow("7: from the worse one", bench, 4);
        bench = withForwarders(0, 3, 4);
        due("7: from the better one", bench.data(4, 0), 2);
        dueRow("7: from the better one", bench, 3, 4);
    }

    // "that is THERE"
    private static void dataIsAnsweredByTheThere() {
        Bench bench = withForwarders(0, 3);
        bench.there(3, false);
        due("7: GONE says nothing", bench.data(0, 0), 0);
        bench.there(3, true);
        due("7: THERE says it", bench.data(0, 0), 1);
    }

    // "HEARS"
    private static void dataIsAnsweredByTheHearing() {
        Bench bench = withForwarders(0, 3);
        bench.deaf(3, true);
        due("7: DEAF says nothing", bench.data(0, 0), 0);
        due("7: DEAF SENDS though", bench.sends(0), 8);
        bench.deaf(3, false);
        due("7: HEARS, says it", bench.data(0, 0), 1);
    }

    // "and SENDS (for it)": not for another SOURCE.
    private static void dataIsAnsweredByTheSending() {
        Bench bench = withForwarders(0, 3, 4);
        due("7: SENDS for another", bench.data(0, 1), 0);
        due("7: both say it", bench.data(0, 0), 3);
        due("7: LOST says nothing", bench.data(0, 0), 1);
        dueRow("7: LOST says nothing", bench, 4);
        bench.tick(59);
        bench.deaf(3, true);
        due("7: DEAF 3 hears no new one", bench.data(0, 0), 1);
        bench.deaf(3, false);
        bench.tick(1);
        due("7: 3 is LOST no more", bench.data(0, 0), 3);
        dueRow("7: 3 is LOST no more", bench, 3, 4, 4);
    }

    // "by numbers, says its CLAIM": by the ROUTERS' numbers, not by what is better.
    private static void dataIsAnsweredByNumbers() {
        Bench bench = withForwarders(0, 9, 5, 0);
        bench.place(0, 0, true, 0);
        bench.place(5, 0, true, 1);
        due("7: by numbers", bench.data(1, 0), 5);
        dueRow("7: by numbers", bench, 0, 5, 9, 0, 0);
    }

    // "What is said stands in a row, and is heard one by one from the first on"; "it says its own
    // (at the row's end)."
    private static void saidIsHeardFromTheFirstOn() {
        Bench bench = withForwarders(0, 0, 1, 2);
        // 0 is heard: 1 and 2 answer. 1 is heard: 2 answers, 0 is LOST. Then 1 once more: 2
        // answers. 2 is heard thrice: nobody is better.
        due("7: from the first on", bench.data(2, 0), 6);
        dueRow("7: from the first on", bench, 0, 1, 1, 2, 2, 2);
    }

    // "by each other ROUTER that is THERE and HEARS, by numbers"
    private static void saidIsHeardByNumbers() {
        Bench bench = withForwarders(0, 0, 5, 9);
        bench.place(5, 0, true, 2);
        bench.place(9, 0, true, 1);
        // 0 is heard: 5, then 9 answer, though 9 is better. 5 is heard twice: 9 answers.
        due("7: heard by numbers", bench.data(9, 0), 6);
        dueRow("7: heard by numbers", bench, 0, 5, 5, 9, 9, 9);
    }

    // "by each other ROUTER": none keeps its own CLAIM.
    private static void saidIsNotHeardByItsOwnRouter() {
        Bench bench = withForwarders(0, 7);
        due("7: one alone", bench.data(0, 0), 1);
        for (int r = 0; r < 10; r++) {
            due("7: kept by " + r, bench.kept(r, 0), r == 7 ? NONE : 1000007);
        }
    }

    // "that is THERE and HEARS"
    private static void saidIsNotHeardByTheGoneAndTheDeaf() {
        Bench bench = withForwarders(0, 7, 8, 9);
        bench.there(8, false);
        bench.deaf(9, true);
        due("7: neither answers", bench.data(0, 0), 1);
        due("7: kept by the GONE one", bench.kept(8, 0), NONE);
        due("7: kept by the DEAF one", bench.kept(9, 0), NONE);
        bench.there(8, true);
        bench.deaf(9, false);
        due("7: nor kept by the one that is back", bench.kept(8, 0), NONE);
        due("7: nor by the one that HEARS again", bench.kept(9, 0), NONE);
        due("7: both are heard then", bench.data(0, 0), 7);
        dueRow("7: both are heard then", bench, 7, 8, 9, 8, 9, 9, 9);
    }

    // "it keeps it, if it keeps none that counts": none at all
    private static void keepsIfItKeepsNone() {
        Bench bench = withForwarders(0, 0);
        bench.place(0, 0, false, 9999);
        due("7: the worst CLAIM that there is", bench.data(9, 0), 1);
        due("7: is kept where none is", bench.kept(9, 0), 1999900);
    }

    // "none that counts": one whose TIME is over does not, one TICK before that it does.
    private static void keepsIfItsOwnTimeIsOver() {
        due("7: a worse one at the last TIME", keptAfterAWorseOneIsSaid(59), 104);
        due("7: a worse one when it is over", keptAfterAWorseOneIsSaid(60), 1000005);
    }

    // 0 keeps the CLAIM of 4; some TICKS later it hears the worse one of 5.
    private static int keptAfterAWorseOneIsSaid(int ticks) {
        Bench bench = withForwarders(0, 4);
        bench.place(4, 0, true, 1);
        bench.deaf(5, true);
        bench.data(0, 0);
        bench.tick(ticks);
        bench.deaf(5, false);
        bench.forward(4, 0, false);
        bench.forward(5, 0, true);
        due("7: the worse one is said", bench.data(0, 0), 1);
        dueRow("7: the worse one is said", bench, 5);
        return bench.kept(0, 0);
    }

    // "none that counts": one of a ROUTER that is GONE does not, and is kept no more.
    private static void keepsIfTheOtherIsGone() {
        Bench bench = withForwarders(0, 4);
        bench.place(4, 0, true, 1);
        bench.data(0, 0);
        bench.there(4, false);
        bench.forward(5, 0, true);
        due("7: 5 is LOST no more", bench.data(0, 0), 1);
        due("7: the worse one in place of the GONE one's", bench.kept(0, 0), 1000005);
        bench.there(4, true);
        due("7: and when that is back", bench.kept(0, 0), 1000005);
        due("7: 5, that heard none, keeps that one's", bench.kept(5, 0), 104);
    }

    // "or it is better than that"
    private static void keepsTheBetter() {
        Bench bench = withForwarders(0, 4);
        bench.place(4, 0, true, 6);
        bench.data(0, 0);
        bench.place(5, 0, true, 6);
        bench.forward(5, 0, true);
        bench.forward(4, 0, false);
        due("7: better by its ROUTER alone", bench.data(0, 0), 1);
        due("7: better by its ROUTER alone, kept", bench.kept(0, 0), 605);
        bench.place(3, 0, true, 5);
        bench.forward(3, 0, true);
        bench.forward(5, 0, false);
        due("7: better by one DISTANCE", bench.data(0, 0), 1);
        due("7: better by one DISTANCE, kept", bench.kept(0, 0), 503);
    }

    // Neither: a worse one of another ROUTER is not kept, and makes nothing last longer.
    private static void keepsNotTheWorse() {
        Bench bench = withForwarders(0, 5);
        bench.place(5, 0, true, 6);
        bench.deaf(4, true);
        bench.data(0, 0);
        bench.tick(30);
        bench.deaf(4, false);
        bench.place(4, 0, true, 6);
        bench.forward(4, 0, true);
        bench.forward(5, 0, false);
        due("7: worse by its ROUTER alone", bench.data(0, 0), 1);
        due("7: worse by its ROUTER alone, not kept", bench.kept(0, 0), 605);
        bench.tick(29);
        due("7: the better one's last TIME", bench.kept(0, 0), 605);
        bench.tick(1);
        due("7: the better one's TIME is over", bench.kept(0, 0), NONE);
    }

    // "or that is of the same ROUTER": worse, it is kept all the same, and its TIME is new.
    private static void keepsTheWorseOfTheSameRouter() {
        Bench bench = withForwarders(0, 9);
        bench.place(9, 0, true, 0);
        bench.data(0, 0);
        bench.tick(59);
        bench.place(9, 0, false, 9999);
        due("7: worse, of the same", bench.data(0, 0), 1);
        due("7: worse, of the same, kept", bench.kept(0, 0), 1999909);
        bench.tick(59);
        due("7: worse, of the same, last TIME", bench.kept(0, 0), 1999909);
        bench.tick(1);
        due("7: worse, of the same, over", bench.kept(0, 0), NONE);
    }

    // The same words: a CLAIM that is neither better nor worse has its TIME anew.
    private static void keepsTheSameAnew() {
        Bench bench = withForwarders(0, 9);
        bench.data(0, 0);
        bench.tick(1);
        bench.data(0, 0);
        bench.tick(59);
        due("7: the same, last TIME", bench.kept(0, 0), 1000009);
        bench.tick(1);
        due("7: the same, over", bench.kept(0, 0), NONE);
    }

    // "then, if it SENDS": a better one that FORWARDS not, or is LOST, keeps silent.
    private static void answersIfItSends() {
        Bench bench = withForwarders(0, 1);
        due("7: better ones, none FORWARDS", bench.data(0, 0), 1);
        bench = withForwarders(0, 9);
        bench.deaf(1, true);
        bench.data(0, 0);
        bench.deaf(1, false);
        bench.forward(9, 0, false);
        bench.forward(1, 0, true);
        bench.forward(5, 0, true);
        // 5 is better than 1, but LOST to 9, that 1 did not hear.
        due("7: 5 is LOST", bench.data(0, 0), 1);
        dueRow("7: 5 is LOST", bench, 1);
        bench.tick(60);
        due("7: 5 is LOST no more", bench.data(0, 0), 3);
        dueRow("7: 5 is LOST no more", bench, 1, 5, 5);
    }

    // "then": it is looked at after the CLAIM is kept. 5 is LOST by what 2 said once, hears it
    // say worse, is LOST no more, and answers that.
    private static void answersOnceNoLongerLost() {
        Bench bench = withForwarders(0, 2);
        bench.place(2, 0, true, 0);
        bench.data(0, 0);
        bench.forward(5, 0, true);
        bench.place(2, 0, false, 0);
        due("7: 5 is LOST yet", bench.sends(0), 4);
        due("7: 5 answers", bench.data(0, 0), 2);
        dueRow("7: 5 answers", bench, 2, 5);
        due("7: 2 is LOST then", bench.sends(0), 32);
    }

    // "and its own CLAIM is better than the one that it heard, it says its own": none answers a
    // better one, by the least that makes one better.
    private static void answersIfItsOwnIsBetter() {
        Bench bench = withForwarders(0, 4, 5);
        due("7: greater ROUTER is heard", bench.data(4, 0), 1);
        bench = withForwarders(0, 4, 5);
        due("7: lesser ROUTER is heard", bench.data(5, 0), 2);
        bench = withForwarders(0, 4, 5);
        bench.place(4, 0, false, 9998);
        bench.place(5, 0, false, 9999);
        due("7: less DISTANCE is heard", bench.data(5, 0), 1);
        bench = withForwarders(0, 4, 5);
        bench.place(4, 0, false, 9998);
        bench.place(5, 0, false, 9999);
        due("7: more DISTANCE is heard", bench.data(4, 0), 2);
    }

    // "So on till the row is through."
    private static void longestRow() {
        Bench bench = withForwarders(0, 0, 1, 2, 3, 4, 5, 6, 7, 8, 9);
        due("7: ten alike", bench.data(9, 0), 104);
        due("7: said in all", bench.look(3), 104);
        int[] countOf = new int[10];
        for (int k = 0; k < 104; k++) {
            int r = bench.said(k);
            if (r >= 0 && r < 10) {
                countOf[r]++;
            }
        }
        // The last one answers each claim of the others, and nobody answers it.
        due("7: claims of the last one", countOf[9], 52);
        due("7: claims of the first one", countOf[0], 1);
        due("7: who SENDS", bench.sends(0), 512);
    }

    // ---- Promise 8 ----

    // "CLAIM k (from 0 on) of the latest row"; "NONE if there is none such."
    private static void saidTaken() {
        Bench bench = withForwarders(2, 3, 4);
        due("8: the row", bench.data(0, 2), 3);
        due("8: the first", bench.said(0), 3);
        due("8: the last", bench.said(2), 4);
        due("8: behind the last", bench.said(3), NONE);
        due("8: before the first", bench.said(-1), NONE);
        due("8: least k", bench.said(Integer.MIN_VALUE), NONE);
        due("8: greatest k", bench.said(Integer.MAX_VALUE), NONE);
        int[] bad = {-1, 60, 1022, 1023, 1024, 1 << 16, Integer.MIN_VALUE, Integer.MAX_VALUE};
        for (int k : bad) {
            dueRefused("8: said(" + k + ")", NONE, full -> full.said(k));
        }
    }

    // "NONE if there is none such.": no row yet, and an empty one
    private static void saidWithoutARow() {
        Bench bench = new Bench();
        due("8: before any row", bench.said(0), NONE);
        bench.data(0, 0);
        due("8: of an empty row", bench.said(0), NONE);
    }

    // "of the latest row": not of one before, though that was longer; nor of a refused one.
    private static void saidOfTheLatestRow() {
        Bench bench = withForwarders(2, 3, 4);
        bench.data(0, 2);
        bench.data(0, 2);
        dueRow("8: the latest, shorter", bench, 4);
        due("8: longer one's last", bench.said(2), NONE);
        due("8: refused", bench.data(10, 2), NONE);
        dueRow("8: after a refused one", bench, 4);
        bench.data(0, 3);
        due("8: of the latest, empty", bench.said(0), NONE);
    }

    // ---- Promise 9 ----

    // "1000000 times the first number, 100 times the DISTANCE, and the ROUTER"
    private static void claimTaken() {
        Bench bench = new Bench();
        bench.place(0, 0, true, 0);
        due("9: the least", bench.claim(0, 0), 0);
        bench.place(9, 15, false, 9999);
        due("9: the greatest", bench.claim(9, 15), 1999909);
        bench.place(9, 0, true, 9999);
        due("9: the greatest STRAIGHT one", bench.claim(9, 0), 999909);
        due("9: the first not STRAIGHT", bench.claim(0, 15), 1000000);
        bench.there(9, false);
        due("9: of a GONE one", bench.claim(9, 15), 1999909);
    }

    // "NONE if there is none such."
    private static void claimRefused() {
        for (int r : NO_ROUTER) {
            dueRefused("9: claim(" + r + ", 0)", NONE, bench -> bench.claim(r, 0));
        }
        for (int s : NO_SOURCE) {
            dueRefused("9: claim(0, " + s + ")", NONE, bench -> bench.claim(0, s));
            dueRefused("9: claim(9, " + s + ")", NONE, bench -> bench.claim(9, s));
        }
        dueRefused("9: claim(-1, 16)", NONE, bench -> bench.claim(-1, 16));
    }

    // ---- Promise 10 ----

    // "The CLAIM (so told) that a ROUTER keeps for a SOURCE, if it counts"
    private static void keptTaken() {
        Bench bench = withForwarders(15, 0);
        bench.forward(9, 0, true);
        bench.place(0, 15, true, 0);
        bench.place(9, 0, false, 9999);
        bench.data(5, 15);
        bench.data(5, 0);
        due("10: the least CLAIM", bench.kept(9, 15), 0);
        due("10: the greatest CLAIM", bench.kept(0, 0), 1999909);
    }

    // "NONE without.": none kept, and none such
    private static void keptRefused() {
        due("10: none kept", new Bench().kept(9, 15), NONE);
        for (int r : NO_ROUTER) {
            dueRefused("10: kept(" + r + ", 0)", NONE, bench -> bench.kept(r, 0));
        }
        for (int s : NO_SOURCE) {
            dueRefused("10: kept(0, " + s + ")", NONE, bench -> bench.kept(0, s));
            dueRefused("10: kept(9, " + s + ")", NONE, bench -> bench.kept(9, s));
        }
        dueRefused("10: kept(-1, 16)", NONE, bench -> bench.kept(-1, 16));
    }

    // ---- Promise 11 ----

    // "Whether a ROUTER is LOST for a SOURCE"
    private static void lostTaken() {
        Bench bench = withForwarders(0, 9);
        bench.forward(0, 15, true);
        bench.place(0, 15, true, 0);
        bench.data(5, 0);
        bench.data(5, 15);
        due("11: first ROUTER, first SOURCE", bench.lost(0, 0), true);
        due("11: last ROUTER, first SOURCE", bench.lost(9, 0), false);
        due("11: first ROUTER, last SOURCE", bench.lost(0, 15), false);
        due("11: last ROUTER, last SOURCE", bench.lost(9, 15), true);
    }

    // "(false if there is none such)": also where all that there are are LOST but the best
    private static void lostRefused() {
        for (int r : NO_ROUTER) {
            dueRefused("11: lost(" + r + ", 0)", 0, bench -> number(bench.lost(r, 0)));
            due("11: lost(" + r + ", 0), all LOST", allLost().lost(r, 0), false);
            due("11: lost(" + r + ", 15), all LOST", allLost().lost(r, 15), false);
        }
        for (int s : NO_SOURCE) {
            dueRefused("11: lost(0, " + s + ")", 0, bench -> number(bench.lost(0, s)));
            due("11: lost(0, " + s + "), all LOST", allLost().lost(0, s), false);
            due("11: lost(8, " + s + "), all LOST", allLost().lost(8, s), false);
        }
        due("11: lost(-1, 16), all LOST", allLost().lost(-1, 16), false);
    }

    private static Bench allLost() {
        Bench bench = new Bench();
        for (int s = 0; s < 16; s++) {
            bench.forward(9, s, true);
            bench.data(0, s);
        }
        return bench;
    }

    // ---- Promise 12 ----

    // "The ROUTERS that SEND for a SOURCE, as bits"
    private static void sendsTaken() {
        Bench bench = new Bench();
        due("12: none", bench.sends(0), 0);
        for (int r = 0; r < 10; r++) {
            bench.forward(r, 15, true);
            due("12: up to " + r, bench.sends(15), (2 << r) - 1);
        }
        due("12: none for the first SOURCE", bench.sends(0), 0);
        bench.forward(0, 15, false);
        due("12: all but the first", bench.sends(15), 1022);
        bench.forward(9, 15, false);
        due("12: nor the last", bench.sends(15), 510);
    }

    // "NONE if there is none such."
    private static void sendsRefused() {
        for (int s : NO_SOURCE) {
            dueRefused("12: sends(" + s + ")", NONE, bench -> bench.sends(s));
        }
    }

    // ---- Promise 13 ----

    // "What 0: TIME, 1: ROUTERS that are THERE, as bits, 2: those that are DEAF, 3: CLAIMS said in
    // all."
    private static void lookTaken() {
        Bench bench = withForwarders(0, 4, 5);
        bench.tick(100);
        bench.there(0, false);
        bench.deaf(9, true);
        bench.data(1, 0);
        bench.data(1, 0);
        bench.data(1, 1);
        due("13: TIME", bench.look(0), 100);
        due("13: THERE", bench.look(1), 1022);
        due("13: DEAF", bench.look(2), 512);
        due("13: said in all, not in the latest row", bench.look(3), 4);
        bench.there(9, false);
        due("13: GONE and DEAF, THERE", bench.look(1), 510);
        due("13: GONE and DEAF, DEAF", bench.look(2), 512);
    }

    // "NONE for another what."
    private static void lookRefused() {
        int[] bad = {-1, 4, 5, -4, 1 << 16, Integer.MIN_VALUE, Integer.MAX_VALUE};
        for (int what : bad) {
            dueRefused("13: look(" + what + ")", NONE, bench -> bench.look(what));
        }
    }
}
