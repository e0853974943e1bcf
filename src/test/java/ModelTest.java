import java.util.ArrayList;
import java.util.List;
import java.util.Random;

/**
 * Runs of seeded random calls against a second, plain reading of the document: claims are objects
 * here, and what is said carries its claim along, so the two share no way of holding the state.
 */
public final class ModelTest {
    private static final int RUNS = 8000;

    // What an object answers to later calls is free, so no run makes more.
    private static final int CALLS = 512;

    private record Claim(int first, int distance, int router) {
        boolean betterThan(Claim other) {
            if (first != other.first) {
                return first < other.first;
            }
            if (distance != other.distance) {
                return distance < other.distance;
            }
            return router > other.router;
        }

        int told() {
            return first * 1000000 + distance * 100 + router;
        }
    }

    private static final class Desk {
        boolean forwards = false;
        boolean straight = false;
        int distance = 0;
        Claim kept = null;
        int until = 0;
    }

    private static final class Model {
        final Desk[][] desks = new Desk[10][16];
        final boolean[] gone = new boolean[10];
        final boolean[] deaf = new boolean[10];
        List<Claim> row = new ArrayList<>();
        int time = 0;
        int saidInAll = 0;

        Model() {
            for (Desk[] ofRouter : desks) {
                for (int s = 0; s < 16; s++) {
                    ofRouter[s] = new Desk();
                }
            }
        }

        static boolean has(int r, int s) {
            return hasRouter(r) && s >= 0 && s <= 15;
        }

        static boolean hasRouter(int r) {
            return r >= 0 && r <= 9;
        }

        Claim own(int r, int s) {
            Desk desk = desks[r][s];
            return new Claim(desk.straight ? 0 : 1, desk.distance, r);
        }

        Claim counting(int r, int s) {
            Desk desk = desks[r][s];
            if (desk.kept == null || time >= desk.until || gone[desk.kept.router()]) {
                return null;
            }
            return desk.kept;
        }

        boolean isLost(int r, int s) {
            Claim kept = counting(r, s);
            return kept != null && kept.betterThan(own(r, s));
        }

        boolean isSending(int r, int s) {
            return !gone[r] && desks[r][s].forwards && !isLost(r, s);
        }

        int tick(int n) {
            if (n < 1 || n > 100 || time + n > 100000) {
                return -1;
            }
            return time += n;
        }

        int data(int from, int s) {
            if (!has(from, s) || gone[from]) {
                return -1;
            }
            row = new ArrayList<>();
            for (int r = 0; r < 10; r++) {
                if (r != from && !gone[r] && !deaf[r] && isSending(r, s)) {
                    row.add(own(r, s));
                }
            }
            for (int k = 0; k < row.size(); k++) {
                for (int r = 0; r < 10; r++) {
                    if (r != row.get(k).router() && !gone[r] && !deaf[r]) {
                        hear(r, s, row.get(k));
                    }
                }
            }
            saidInAll += row.size();
            return row.size();
        }

        private void hear(int r, int s, Claim heard) {
            Claim kept = counting(r, s);
            if (kept == null || heard.betterThan(kept) || kept.router() == heard.router()) {
                desks[r][s].kept = heard;
                desks[r][s].until = time + 60;
            }
            if (isSending(r, s) && own(r, s).betterThan(heard)) {
                row.add(own(r, s));
            }
        }

        int bits(boolean[] flags, boolean wanted) {
            int bits = 0;
            for (int r = 0; r < 10; r++) {
                if (flags[r] == wanted) {
                    bits += 1 << r;
                }
            }
            return bits;
        }

        int sends(int s) {
            if (!has(0, s)) {
                return -1;
            }
            boolean[] sending = new boolean[10];
            for (int r = 0; r < 10; r++) {
                sending[r] = isSending(r, s);
            }
            return bits(sending, true);
        }

        int look(int what) {
            int[] seen = {time, bits(gone, false), bits(deaf, true), saidInAll};
            return what >= 0 && what < 4 ? seen[what] : -1;
        }
    }

    private static int wrong = 0;
    private static int longestRow = 0;
    private static int keptCount = 0;
    private static int lostCount = 0;

    private final Random random;
    private final int sources;
    private final int distances;
    private final int odd;
    private int calls = 0;
    private final ClaimBench bench = new ClaimBench();
    private final Model model = new Model();

    // Runs differ in how many sources and distances they use, and in how often they ask for what
    // there is not: few of each bring the routers into each other's way.
    private ModelTest(int seed) {
        random = new Random(seed);
        sources = seed % 4 == 0 ? 16 : 1 + seed % 3;
        distances = seed % 5 == 0 ? 10000 : 1 + seed % 4;
        odd = seed % 7 == 0 ? 5 : 60;
    }

    public static void main(String[] args) {
        for (int seed = 1; seed <= RUNS && wrong < 20; seed++) {
            new ModelTest(seed).run(seed);
        }
        if (longestRow < 60 || keptCount < 1000 || lostCount < 1000) {
            wrong++;
            System.out.println("the runs are too tame: longest row " + longestRow + ", kept "
                    + keptCount + ", lost " + lostCount);
        }
        System.out.println(wrong == 0 ? "the class and the model agree" : wrong + " differences");
        if (wrong != 0) {
            System.exit(1);
        }
    }

    private void run(int seed) {
        int randomCalls = seed % 2 == 0 ? CALLS : CALLS / 3;
        while (calls < randomCalls && wrong < 20) {
            int kind = calls < 12 ? 1 : random.nextInt(14);
            ask("run " + seed + ", call " + calls, kind);
        }
        compareAll("run " + seed + ", at its end");
    }

    private int oneOf(int count) {
        if (random.nextInt(odd) == 0) {
            int[] strange = {-1, count, Integer.MIN_VALUE, Integer.MAX_VALUE, random.nextInt()};
            return strange[random.nextInt(strange.length)];
        }
        return random.nextInt(count);
    }

    private int someSource() {
        int s = oneOf(sources);
        return s == sources ? 16 : s;
    }

    private int someDistance() {
        int d = oneOf(distances);
        return d == distances ? 10000 : d;
    }

    private void ask(String where, int kind) {
        int r = oneOf(10);
        int s = someSource();
        boolean on = random.nextInt(4) != 0;
        switch (kind) {
            case 0 -> askTick(where);
            case 1 -> askForward(where, r, s, on);
            case 2 -> askPlace(where, r, s);
            case 3 -> askThere(where, r, on);
            case 4 -> askDeaf(where, r, random.nextInt(5) == 0);
            case 5, 6, 7 -> askData(where, r, s);
            case 8 -> askSaid(where, oneOf(Math.max(1, model.row.size())));
            case 9 -> askClaim(where, r, s);
            case 10 -> askKept(where, r, s);
            case 11 -> askLost(where, r, s);
            case 12 -> due(where + ": sends(" + s + ")", bench.sends(s), model.sends(s));
            default -> askLook(where, oneOf(4));
        }
    }

    private void askTick(String where) {
        int n = random.nextBoolean() ? oneOf(101) : 1 + random.nextInt(15);
        due(where + ": tick(" + n + ")", bench.tick(n), model.tick(n));
    }

    private void askForward(String where, int r, int s, boolean on) {
        if (Model.has(r, s)) {
            model.desks[r][s].forwards = on;
        }
        due(where + ": forward", bench.forward(r, s, on), Model.has(r, s));
    }

    private void askPlace(String where, int r, int s) {
        boolean straight = random.nextInt(3) == 0;
        int distance = someDistance();
        boolean taken = Model.has(r, s) && distance >= 0 && distance <= 9999;
        if (taken) {
            model.desks[r][s].straight = straight;
            model.desks[r][s].distance = distance;
        }
        due(where + ": place", bench.place(r, s, straight, distance), taken);
    }

    private void askThere(String where, int r, boolean on) {
        boolean was = Model.hasRouter(r) && !model.gone[r];
        if (Model.hasRouter(r)) {
            model.gone[r] = !on;
        }
        due(where + ": there", bench.there(r, on), was);
    }

    private void askDeaf(String where, int r, boolean on) {
        boolean was = Model.hasRouter(r) && model.deaf[r];
        if (Model.hasRouter(r)) {
            model.deaf[r] = on;
        }
        due(where + ": deaf", bench.deaf(r, on), was);
    }

    private void askData(String where, int r, int s) {
        due(where + ": data(" + r + ", " + s + ")", bench.data(r, s), model.data(r, s));
        longestRow = Math.max(longestRow, model.row.size());
        if (random.nextInt(3) == 0) {
            for (int k = 0; k <= model.row.size() && calls < CALLS; k++) {
                askSaid(where, k);
            }
        }
    }

    private void askSaid(String where, int k) {
        boolean has = k >= 0 && k < model.row.size();
        due(where + ": said(" + k + ")", bench.said(k), has ? model.row.get(k).router() : -1);
    }

    private void askClaim(String where, int r, int s) {
        int want = Model.has(r, s) ? model.own(r, s).told() : -1;
        due(where + ": claim(" + r + ", " + s + ")", bench.claim(r, s), want);
    }

    private void askKept(String where, int r, int s) {
        Claim kept = Model.has(r, s) ? model.counting(r, s) : null;
        keptCount += kept == null ? 0 : 1;
        due(where + ": kept(" + r + ", " + s + ")", bench.kept(r, s),
                kept == null ? -1 : kept.told());
    }

    private void askLost(String where, int r, int s) {
        boolean want = Model.has(r, s) && model.isLost(r, s);
        lostCount += want ? 1 : 0;
        due(where + ": lost(" + r + ", " + s + ")", bench.lost(r, s), want);
    }

    private void askLook(String where, int what) {
        due(where + ": look(" + what + ")", bench.look(what), model.look(what));
    }

    private void compareAll(String where) {
        for (int what = 0; what < 4 && calls < CALLS; what++) {
            askLook(where, what);
        }
        for (int s = 0; s < sources && calls < CALLS; s++) {
            due(where + ": sends(" + s + ")", bench.sends(s), model.sends(s));
            for (int r = 0; r < 10 && calls + 3 <= CALLS; r++) {
                askClaim(where, r, s);
                askKept(where, r, s);
                askLost(where, r, s);
            }
        }
    }

    private void due(String what, boolean got, boolean want) {
        due(what, got ? 1 : 0, want ? 1 : 0);
    }

    // Each answer that is looked at is one call.
    private void due(String what, int got, int want) {
        calls++;
        if (got != want) {
            wrong++;
            System.out.println(what + " answered " + got + ", due is " + want);
        }
    }
}
