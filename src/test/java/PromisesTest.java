/** Each promise of the document by hand-worked runs: ordinary inputs, edges and wrong inputs. */
public final class PromisesTest {
    private static final int[] NO_ROUTER = {-1, 10, Integer.MIN_VALUE, Integer.MAX_VALUE};
    private static final int[] NO_SOURCE = {-1, 16, Integer.MIN_VALUE, Integer.MAX_VALUE};

    private static int wrong = 0;

    private static void due(String what, int got, int want) {
        if (got != want) {
            wrong++;
            System.out.println(what + " answered " + got + ", due is " + want);
        }
    }

    private static void due(String what, boolean got, boolean want) {
        due(what, got ? 1 : 0, want ? 1 : 0);
    }

    public static void main(String[] args) {
        newObject();
        tick();
        forward();
        place();
        there();
        deaf();
        dataRefused();
        dataFirstRow();
        dataAnswers();
        dataOfOneWhoDoesNotSend();
        dataHeardByTheDeafAndGone();
        dataLeavesOtherSourcesAlone();
        said();
        claim();
        keptTime();
        keptWhileThere();
        keptReplaced();
        keptAsSaid();
        keptWrong();
        lost();
        betterClaims();
        sends();
        look();
        refusedChangesNothing();
        objectsAreApart();
        longestRowOfEqualRouters();
        System.out.println(wrong == 0 ? "all promises hold" : wrong + " answers are not as due");
        if (wrong != 0) {
            System.exit(1);
        }
    }

    private static ClaimBench withForwarders(int source, int... routers) {
        ClaimBench bench = new ClaimBench();
        for (int r : routers) {
            due("forward(" + r + ")", bench.forward(r, source, true), true);
        }
        return bench;
    }

    private static void dueRow(String what, ClaimBench bench, int... routers) {
        for (int k = 0; k < routers.length; k++) {
            due(what + ", said(" + k + ")", bench.said(k), routers[k]);
        }
        due(what + ", behind the row", bench.said(routers.length), ClaimBench.NONE);
    }

    private static void newObject() {
        ClaimBench bench = new ClaimBench();
        due("1: NONE", ClaimBench.NONE, -1);
        due("1: time", bench.look(0), 0);
        due("1: there", bench.look(1), 1023);
        due("1: deaf", bench.look(2), 0);
        due("1: said in all", bench.look(3), 0);
        due("1: said(0)", bench.said(0), -1);
        for (int s = 0; s < 16; s++) {
            due("1: sends", bench.sends(s), 0);
            for (int r = 0; r < 10; r++) {
                due("1: claim", bench.claim(r, s), 1000000 + r);
                due("1: kept", bench.kept(r, s), -1);
                due("1: lost", bench.lost(r, s), false);
            }
        }
    }

    private static void tick() {
        ClaimBench bench = new ClaimBench();
        due("2: tick(1)", bench.tick(1), 1);
        due("2: tick(100)", bench.tick(100), 101);
        int[] bad = {0, -1, 101, Integer.MIN_VALUE, Integer.MAX_VALUE};
        for (int n : bad) {
            due("2: tick(" + n + ")", bench.tick(n), -1);
            due("2: time after tick(" + n + ")", bench.look(0), 101);
        }
    }

    private static void forward() {
        ClaimBench bench = new ClaimBench();
        due("3: on", bench.forward(0, 0, true), true);
        due("3: on, last ones", bench.forward(9, 15, true), true);
        due("3: sends(0)", bench.sends(0), 1);
        due("3: sends(15)", bench.sends(15), 512);
        due("3: sends(1)", bench.sends(1), 0);
        due("3: on again", bench.forward(9, 15, true), true);
        due("3: sends(15) still", bench.sends(15), 512);
        due("3: off", bench.forward(9, 15, false), true);
        due("3: off again", bench.forward(9, 15, false), true);
        due("3: sends(15) off", bench.sends(15), 0);
        for (int r : NO_ROUTER) {
            due("3: router " + r, bench.forward(r, 0, true), false);
        }
        for (int s : NO_SOURCE) {
            due("3: source " + s, bench.forward(1, s, true), false);
        }
        due("3: sends(0) at the end", bench.sends(0), 1);
    }

    private static void place() {
        ClaimBench bench = new ClaimBench();
        due("4: straight", bench.place(4, 3, true, 12), true);
        due("4: its claim", bench.claim(4, 3), 1204);
        due("4: not straight", bench.place(4, 3, false, 9999), true);
        due("4: its claim then", bench.claim(4, 3), 1999904);
        due("4: least", bench.place(0, 0, true, 0), true);
        due("4: least claim", bench.claim(0, 0), 0);
        int[] bad = {-1, 10000, Integer.MIN_VALUE, Integer.MAX_VALUE};
        for (int distance : bad) {
            due("4: distance " + distance, bench.place(4, 3, true, distance), false);
        }
        for (int r : NO_ROUTER) {
            due("4: router " + r, bench.place(r, 3, true, 1), false);
        }
        for (int s : NO_SOURCE) {
            due("4: source " + s, bench.place(4, s, true, 1), false);
        }
        due("4: claim after the refused", bench.claim(4, 3), 1999904);
        due("4: another source", bench.claim(4, 2), 1000004);
        due("4: another router", bench.claim(3, 3), 1000003);
    }

    private static void there() {
        ClaimBench bench = withForwarders(1, 2, 9);
        due("5: goes", bench.there(9, false), true);
        due("5: is gone", bench.there(9, false), false);
        due("5: bits", bench.look(1), 511);
        due("5: sends without it", bench.sends(1), 4);
        due("5: comes", bench.there(9, true), false);
        due("5: is there", bench.there(9, true), true);
        due("5: sends with it", bench.sends(1), 516);
        for (int r : NO_ROUTER) {
            due("5: router " + r, bench.there(r, false), false);
        }
        due("5: bits at the end", bench.look(1), 1023);
    }

    private static void deaf() {
        ClaimBench bench = withForwarders(1, 0);
        due("6: turns deaf", bench.deaf(0, true), false);
        due("6: is deaf", bench.deaf(0, true), true);
        due("6: bits", bench.look(2), 1);
        due("6: the deaf send", bench.sends(1), 1);
        due("6: hears", bench.deaf(0, false), true);
        due("6: hears again", bench.deaf(0, false), false);
        for (int r : NO_ROUTER) {
            due("6: router " + r, bench.deaf(r, true), false);
        }
        due("6: bits at the end", bench.look(2), 0);
    }

    private static void dataRefused() {
        ClaimBench bench = withForwarders(0, 1);
        for (int r : NO_ROUTER) {
            due("7: router " + r, bench.data(r, 0), -1);
        }
        for (int s : NO_SOURCE) {
            due("7: source " + s, bench.data(0, s), -1);
        }
        bench.there(0, false);
        due("7: gone", bench.data(0, 0), -1);
        bench.there(0, true);
        due("7: there again", bench.data(0, 0), 1);
    }

    private static void dataFirstRow() {
        // Each is better than those behind it, so none but the first row's claims is said.
        ClaimBench bench = withForwarders(5, 1, 4, 7);
        bench.place(1, 5, true, 3);
        bench.place(4, 5, false, 2);
        bench.place(7, 5, false, 3);
        due("7: from one that does not send", bench.data(0, 5), 5);
        // 1 is heard: 4 and 7 lose. 4 is heard: 1 answers. 7 is heard: 1 answers.
        dueRow("7: row", bench, 1, 4, 7, 1, 1);
        due("7: senders", bench.sends(5), 2);
        due("7: the next row", bench.data(0, 5), 1);
        dueRow("7: the next row", bench, 1);
        due("7: from the sender", bench.data(1, 5), 0);
    }

    private static void dataAnswers() {
        // All alike: the greatest router wins, and each better one answers each worse one
        // that it hears while it is not lost.
        ClaimBench bench = withForwarders(0, 0, 1, 2);
        // Row 0 1: 0 is heard by 1 (answers) and 2 (answers); 1 by 0 (loses) and 2 (answers);
        // 1 once more: 2 answers; then 2 thrice and once more, heard by all, 1 loses.
        due("7: answers", bench.data(2, 0), 6);
        dueRow("7: answers", bench, 0, 1, 1, 2, 2, 2);
        due("7: winner", bench.sends(0), 4);
        due("7: 0 keeps the best", bench.kept(0, 0), 1000002);
        due("7: 1 keeps the best", bench.kept(1, 0), 1000002);
        due("7: 2 keeps the best of the others", bench.kept(2, 0), 1000001);
        due("7: 9 hears without forwarding", bench.kept(9, 0), 1000002);
    }

    private static void dataOfOneWhoDoesNotSend() {
        ClaimBench bench = withForwarders(3, 6);
        due("7: from 2, that does not forward", bench.data(2, 3), 1);
        due("7: 2 keeps", bench.kept(2, 3), 1000006);
        due("7: 2 is lost", bench.lost(2, 3), true);
        due("7: the speaker keeps none", bench.kept(6, 3), -1);
        bench.forward(2, 3, true);
        due("7: 2 sends not, being lost", bench.sends(3), 64);
        due("7: from the deaf", bench.deaf(2, true) ? 1 : bench.data(2, 3), 1);
    }

    private static void dataHeardByTheDeafAndGone() {
        ClaimBench bench = withForwarders(0, 3, 5, 8);
        bench.deaf(8, true);
        bench.there(4, false);
        due("7: the deaf do not answer", bench.data(0, 0), 3);
        dueRow("7: the deaf do not answer", bench, 3, 5, 5);
        due("7: the deaf keep nothing", bench.kept(8, 0), -1);
        due("7: the gone keep nothing", bench.kept(4, 0), -1);
        bench.there(4, true);
        due("7: not later, either", bench.kept(4, 0), -1);
        due("7: the deaf send on", bench.sends(0), 32 + 256);
        bench.there(5, false);
        due("7: the gone say nothing", bench.data(0, 0), 1);
        dueRow("7: the gone say nothing", bench, 3);
    }

    private static void dataLeavesOtherSourcesAlone() {
        ClaimBench bench = withForwarders(0, 1, 2);
        bench.forward(1, 1, true);
        bench.forward(2, 1, true);
        bench.data(0, 0);
        due("7: source 0", bench.sends(0), 4);
        due("7: source 1", bench.sends(1), 6);
        due("7: kept for source 1", bench.kept(1, 1), -1);
    }

    private static void said() {
        ClaimBench bench = withForwarders(2, 4);
        due("8: before any row", bench.said(0), -1);
        bench.data(0, 2);
        due("8: first", bench.said(0), 4);
        int[] bad = {-1, 1, 1023, 1024, Integer.MIN_VALUE, Integer.MAX_VALUE};
        for (int k : bad) {
            due("8: said(" + k + ")", bench.said(k), -1);
        }
        due("8: refused data", bench.data(0, 16), -1);
        due("8: row after refused data", bench.said(0), 4);
        due("8: empty row", bench.data(0, 3), 0);
        due("8: latest row is empty", bench.said(0), -1);
    }

    private static void claim() {
        ClaimBench bench = new ClaimBench();
        bench.place(9, 15, false, 9999);
        due("9: greatest", bench.claim(9, 15), 1999909);
        bench.place(9, 15, true, 1);
        due("9: straight", bench.claim(9, 15), 109);
        bench.there(9, false);
        due("9: of a gone one", bench.claim(9, 15), 109);
        for (int r : NO_ROUTER) {
            due("9: router " + r, bench.claim(r, 0), -1);
        }
        for (int s : NO_SOURCE) {
            due("9: source " + s, bench.claim(0, s), -1);
        }
    }

    private static void keptTime() {
        ClaimBench bench = withForwarders(0, 1, 2);
        bench.tick(7);
        bench.data(0, 0);
        due("10: at once", bench.kept(1, 0), 1000002);
        bench.tick(59);
        due("10: after 59", bench.kept(1, 0), 1000002);
        due("10: lost after 59", bench.lost(1, 0), true);
        bench.tick(1);
        due("10: after 60", bench.kept(1, 0), -1);
        due("10: lost after 60", bench.lost(1, 0), false);
        due("10: both send", bench.sends(0), 6);
        bench.data(0, 0);
        bench.tick(30);
        bench.data(0, 0);
        bench.tick(59);
        due("10: said again, kept anew", bench.kept(1, 0), 1000002);
        bench.tick(1);
        due("10: and then no more", bench.kept(1, 0), -1);
    }

    private static void keptWhileThere() {
        ClaimBench bench = withForwarders(0, 1, 2);
        bench.data(0, 0);
        bench.there(2, false);
        due("10: sayer is gone", bench.kept(1, 0), -1);
        due("10: not lost", bench.lost(1, 0), false);
        bench.tick(10);
        bench.there(2, true);
        due("10: sayer is back", bench.kept(1, 0), 1000002);
        due("10: lost again", bench.lost(1, 0), true);
        bench.there(2, false);
        due("10: 1 says", bench.data(0, 0), 1);
        due("10: kept in place of the gone one's", bench.kept(0, 0), 1000001);
        bench.there(2, true);
        due("10: the gone one's is forgotten", bench.kept(0, 0), 1000001);
        due("10: but not by 1, that heard none", bench.kept(1, 0), 1000002);
        bench.there(1, false);
        due("10: a gone one keeps what it kept", bench.kept(1, 0), 1000002);
        bench.tick(50);
        due("10: no longer than that", bench.kept(1, 0), -1);
    }

    private static void keptReplaced() {
        ClaimBench bench = withForwarders(0, 5);
        bench.data(0, 0);
        bench.forward(5, 0, false);
        bench.forward(4, 0, true);
        bench.place(4, 0, false, 1);
        bench.there(5, false);
        bench.deaf(3, true);
        bench.data(0, 0);
        bench.there(5, true);
        due("10: 3, deaf, keeps the older", bench.kept(3, 0), 1000005);
        due("10: 0 keeps the newer", bench.kept(0, 0), 1000104);
        bench.deaf(3, false);
        bench.tick(20);
        // 4 is lost while 5 is there, till it stands better than what 5 said.
        bench.place(4, 0, true, 0);
        bench.data(0, 0);
        due("10: a better one is kept", bench.kept(3, 0), 4);
        bench.place(4, 0, true, 77);
        bench.data(0, 0);
        due("10: a worse one of the same router is kept", bench.kept(3, 0), 7704);
        bench.forward(6, 0, true);
        bench.place(6, 0, true, 76);
        bench.data(0, 0);
        due("10: a better one of another is kept", bench.kept(3, 0), 7606);
        keptNotReplaced();
    }

    private static void keptNotReplaced() {
        ClaimBench bench = withForwarders(0, 1);
        bench.place(1, 0, false, 10);
        bench.place(2, 0, false, 20);
        bench.deaf(2, true);
        bench.data(0, 0);
        bench.tick(40);
        bench.deaf(2, false);
        bench.forward(1, 0, false);
        bench.forward(2, 0, true);
        // 2 heard nothing of 1, so it sends; 1 forwards no more, so it does not answer.
        due("10: the worse one is said", bench.data(0, 0), 1);
        dueRow("10: the worse one is said", bench, 2);
        due("10: the better one stays", bench.kept(0, 0), 1001001);
        due("10: who kept none keeps the worse one", bench.kept(1, 0), 1002002);
        bench.tick(19);
        due("10: the better one's time is not over", bench.kept(0, 0), 1001001);
        bench.tick(1);
        due("10: nor was it made longer", bench.kept(0, 0), -1);
        bench.data(0, 0);
        due("10: the worse one is kept then", bench.kept(0, 0), 1002002);
    }

    private static void keptAsSaid() {
        ClaimBench bench = withForwarders(0, 8);
        bench.place(8, 0, true, 5);
        bench.data(0, 0);
        bench.place(8, 0, false, 50);
        due("10: as it was said", bench.kept(2, 0), 508);
        bench.forward(8, 0, false);
        due("10: though it forwards no more", bench.kept(2, 0), 508);
        bench.deaf(2, true);
        due("10: though 2 is deaf now", bench.kept(2, 0), 508);
    }

    private static void keptWrong() {
        ClaimBench bench = withForwarders(0, 8);
        bench.data(0, 0);
        for (int r : NO_ROUTER) {
            due("10: router " + r, bench.kept(r, 0), -1);
            due("11: router " + r, bench.lost(r, 0), false);
        }
        for (int s : NO_SOURCE) {
            due("10: source " + s, bench.kept(0, s), -1);
            due("11: source " + s, bench.lost(0, s), false);
        }
    }

    private static void lost() {
        ClaimBench bench = withForwarders(0, 4);
        bench.place(4, 0, false, 30);
        bench.place(3, 0, false, 31);
        bench.place(5, 0, false, 30);
        bench.data(0, 0);
        due("11: 3 is lost, not forwarding", bench.lost(3, 0), true);
        due("11: 5 is not, with a greater number", bench.lost(5, 0), false);
        due("11: 4 is not", bench.lost(4, 0), false);
        bench.place(3, 0, false, 30);
        due("11: 3 is lost, with a lesser number", bench.lost(3, 0), true);
        bench.place(3, 0, false, 29);
        due("11: 3 is not, by its claim now", bench.lost(3, 0), false);
        bench.place(5, 0, false, 31);
        due("11: 5 is, by its claim now", bench.lost(5, 0), true);
        bench.there(5, false);
        due("11: 5 is, though gone", bench.lost(5, 0), true);
        bench.there(4, false);
        due("11: 5 is not without 4", bench.lost(5, 0), false);
    }

    private static void betterClaims() {
        dueWinner("straight before near", 1, true, 9999, 2, false, 0, 1);
        dueWinner("near before far", 1, true, 5, 2, true, 6, 1);
        dueWinner("far behind near", 1, true, 6, 2, true, 5, 2);
        dueWinner("greater among equals", 1, true, 5, 2, true, 5, 2);
        dueWinner("near before far, not straight", 1, false, 99, 2, false, 100, 1);
    }

    private static void dueWinner(String what, int a, boolean aStraight, int aDistance, int b,
            boolean bStraight, int bDistance, int winner) {
        ClaimBench bench = withForwarders(0, a, b);
        bench.place(a, 0, aStraight, aDistance);
        bench.place(b, 0, bStraight, bDistance);
        bench.data(0, 0);
        due("terms: " + what, bench.sends(0), 1 << winner);
    }

    private static void sends() {
        ClaimBench bench = withForwarders(15, 0, 9);
        due("12: both", bench.sends(15), 513);
        bench.data(5, 15);
        due("12: the better one", bench.sends(15), 512);
        bench.there(9, false);
        due("12: the one that is there", bench.sends(15), 1);
        for (int s : NO_SOURCE) {
            due("12: source " + s, bench.sends(s), -1);
        }
    }

    private static void look() {
        ClaimBench bench = withForwarders(0, 1, 2);
        bench.tick(5);
        bench.there(0, false);
        bench.there(3, false);
        bench.deaf(4, true);
        bench.deaf(9, true);
        due("13: first row", bench.data(5, 0), 3);
        due("13: second row", bench.data(5, 0), 1);
        due("13: refused row", bench.data(0, 0), -1);
        due("13: time", bench.look(0), 5);
        due("13: there", bench.look(1), 1023 - 1 - 8);
        due("13: deaf", bench.look(2), 16 + 512);
        due("13: said in all", bench.look(3), 4);
        int[] bad = {-1, 4, Integer.MIN_VALUE, Integer.MAX_VALUE};
        for (int what : bad) {
            due("13: look(" + what + ")", bench.look(what), -1);
        }
    }

    private static void refusedChangesNothing() {
        ClaimBench bench = withForwarders(0, 1, 2);
        bench.data(0, 0);
        bench.tick(0);
        bench.tick(101);
        bench.forward(-1, 0, true);
        bench.forward(10, 15, true);
        bench.forward(0, 16, true);
        bench.place(0, 16, true, 0);
        bench.place(1, -1, true, 0);
        bench.place(1, 0, true, 10000);
        bench.there(10, false);
        bench.deaf(32, true);
        bench.there(32, false);
        bench.data(0, -16);
        due("refused: time", bench.look(0), 0);
        due("refused: there", bench.look(1), 1023);
        due("refused: deaf", bench.look(2), 0);
        due("refused: said in all", bench.look(3), 3);
        dueRow("refused: row", bench, 1, 2, 2);
        due("refused: sends", bench.sends(0), 4);
        due("refused: sends(15)", bench.sends(15), 0);
        due("refused: claim", bench.claim(1, 0), 1000001);
        due("refused: claim of the next cell", bench.claim(0, 15), 1000000);
    }

    private static void objectsAreApart() {
        ClaimBench one = withForwarders(0, 1, 2);
        ClaimBench other = new ClaimBench();
        one.data(0, 0);
        one.tick(9);
        due("apart: time", other.look(0), 0);
        due("apart: said", other.said(0), -1);
        due("apart: kept", other.kept(0, 0), -1);
        due("apart: sends", other.sends(0), 0);
    }

    private static void longestRowOfEqualRouters() {
        ClaimBench bench = withForwarders(0, 0, 1, 2, 3, 4, 5, 6, 7, 8, 9);
        due("7: ten alike", bench.data(9, 0), 104);
        due("7: the last one", bench.said(103), 9);
        due("7: behind the last one", bench.said(104), -1);
    }
}
