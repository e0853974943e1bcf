/**
 * Routers on one wire that settle by claims which of them sends on what others send there, too.
 *
 * A claim is held as the number that the document tells it by (1000000 times its first number,
 * 100 times its distance, and its router), so that one int carries the whole of it.
 */
public final class ClaimBench {
    public static final int NONE = -1;

    private static final int ROUTERS = 10;
    private static final int SOURCES = 16;
    private static final int ALL_ROUTERS = 1023;
    private static final int MAX_DISTANCE = 9999;
    private static final int MAX_TICKS = 100;
    private static final int MAX_TIME = 100000;
    private static final int KEEPING_TIME = 60;

    private static final int FIRST_UNIT = 1000000;
    private static final int DISTANCE_UNIT = 100;

    // A claim is said in answer to a worse one alone, so each claim of a row ends a chain of ever
    // better claims, no two of a row the same chain: ten routers have 1023 such chains at most.
    private static final int ROW_LIMIT = 1023;

    private int time;
    private int thereBits;
    private int deafBits;
    private int saidInAll;

    // By source, the routers as bits.
    private final int[] forwardBits;

    // By cell: a router's place for a source, see cellOf.
    private final int[] ownClaims;
    private final int[] keptClaims;
    private final int[] keptUntil;

    // Claims do not change while a row is heard, so the routers alone tell what was said.
    private final int[] row;
    private int rowLength;

    public ClaimBench() {
        time = 0;
        thereBits = ALL_ROUTERS;
        deafBits = 0;
        saidInAll = 0;
        forwardBits = new int[SOURCES];
        ownClaims = new int[ROUTERS * SOURCES];
        keptClaims = new int[ROUTERS * SOURCES];
        // Zeros: no TIME is less than 0, so nothing is kept at first.
        keptUntil = new int[ROUTERS * SOURCES];
        row = new int[ROW_LIMIT];
        rowLength = 0;
        for (int r = 0; r < ROUTERS; r++) {
            for (int s = 0; s < SOURCES; s++) {
                ownClaims[cellOf(r, s)] = claimOf(r, false, 0);
            }
        }
    }

    public int tick(int n) {
        if (n < 1 || n > MAX_TICKS || time + n > MAX_TIME) {
            return NONE;
        }
        time += n;
        return time;
    }

    public boolean forward(int r, int s, boolean on) {
        if (!isRouter(r) || !isSource(s)) {
            return false;
        }
        forwardBits[s] = withBit(forwardBits[s], r, on);
        return true;
    }

    public boolean place(int r, int s, boolean straight, int distance) {
        if (!isRouter(r) || !isSource(s) || distance < 0 || distance > MAX_DISTANCE) {
            return false;
        }
        ownClaims[cellOf(r, s)] = claimOf(r, straight, distance);
        return true;
    }

    public boolean there(int r, boolean on) {
        if (!isRouter(r)) {
            return false;
        }
        boolean was = hasBit(thereBits, r);
        thereBits = withBit(thereBits, r, on);
        return was;
    }

    public boolean deaf(int r, boolean on) {
        if (!isRouter(r)) {
            return false;
        }
        boolean was = hasBit(deafBits, r);
        deafBits = withBit(deafBits, r, on);
        return was;
    }

    public int data(int r, int s) {
        if (!isRouter(r) || !isSource(s) || !hasBit(thereBits, r)) {
            return NONE;
        }
        rowLength = 0;
        sayFirstClaims(r, s);
        for (int k = 0; k < rowLength && k < ROW_LIMIT; k++) {
            hearClaim(row[k], s);
        }
        saidInAll += rowLength;
        return rowLength;
    }

    public int said(int k) {
        if (k < 0 || k >= rowLength || k >= ROW_LIMIT) {
            return NONE;
        }
        return row[k];
    }

    public int claim(int r, int s) {
        if (!isRouter(r) || !isSource(s)) {
            return NONE;
        }
        return ownClaims[cellOf(r, s)];
    }

    public int kept(int r, int s) {
        if (!isRouter(r) || !isSource(s) || !keepsOne(cellOf(r, s))) {
            return NONE;
        }
        return keptClaims[cellOf(r, s)];
    }

    public boolean lost(int r, int s) {
        return isRouter(r) && isSource(s) && isLost(cellOf(r, s));
    }

    public int sends(int s) {
        if (!isSource(s)) {
            return NONE;
        }
        int bits = 0;
        for (int r = 0; r < ROUTERS; r++) {
            bits = withBit(bits, r, isSender(r, s));
        }
        return bits;
    }

    public int look(int what) {
        switch (what) {
            case 0:
                return time;
            case 1:
                return thereBits;
            case 2:
                return deafBits;
            case 3:
                return saidInAll;
            default:
                return NONE;
        }
    }

    private void sayFirstClaims(int from, int s) {
        for (int r = 0; r < ROUTERS; r++) {
            if (r != from && isListener(r) && isSender(r, s)) {
                sayClaim(r);
            }
        }
    }

    private void hearClaim(int speaker, int s) {
        int heard = ownClaims[cellOf(speaker, s)];
        for (int r = 0; r < ROUTERS; r++) {
            if (r != speaker && isListener(r)) {
                keepIfDue(cellOf(r, s), heard);
                if (isSender(r, s) && isBetter(ownClaims[cellOf(r, s)], heard)) {
                    sayClaim(r);
                }
            }
        }
    }

    private void sayClaim(int r) {
        if (rowLength < ROW_LIMIT) {
            row[rowLength] = r;
            rowLength++;
        }
    }

    // A claim of the router that said the kept one is taken even if it is worse: it says anew
    // where that router stands, and the older word of it no longer holds.
    private void keepIfDue(int cell, int heard) {
        int before = keptClaims[cell];
        if (!keepsOne(cell) || isBetter(heard, before) || routerOf(heard) == routerOf(before)) {
            keptClaims[cell] = heard;
            keptUntil[cell] = time + KEEPING_TIME;
        }
    }

    private boolean keepsOne(int cell) {
        return time < keptUntil[cell] && hasBit(thereBits, routerOf(keptClaims[cell]));
    }

    private boolean isLost(int cell) {
        return keepsOne(cell) && isBetter(keptClaims[cell], ownClaims[cell]);
    }

    private boolean isSender(int r, int s) {
        return hasBit(thereBits, r) && hasBit(forwardBits[s], r) && !isLost(cellOf(r, s));
    }

    private boolean isListener(int r) {
        return hasBit(thereBits, r) && !hasBit(deafBits, r);
    }

    private static boolean isRouter(int r) {
        return r >= 0 && r < ROUTERS;
    }

    private static boolean isSource(int s) {
        return s >= 0 && s < SOURCES;
    }

    private static int cellOf(int r, int s) {
        return r * SOURCES + s;
    }

    private static int claimOf(int r, boolean straight, int distance) {
        return (straight ? 0 : FIRST_UNIT) + distance * DISTANCE_UNIT + r;
    }

    private static int routerOf(int claim) {
        return claim % DISTANCE_UNIT;
    }

    // Without the router, claims stand in the order of first number and distance; among equals
    // the greater router wins, against the order of the numbers.
    private static boolean isBetter(int one, int other) {
        int oneRank = one / DISTANCE_UNIT;
        int otherRank = other / DISTANCE_UNIT;
        if (oneRank != otherRank) {
            return oneRank < otherRank;
        }
        return routerOf(one) > routerOf(other);
    }

    private static boolean hasBit(int bits, int r) {
        return (bits >> r & 1) != 0;
    }

    private static int withBit(int bits, int r, boolean on) {
        return on ? bits | 1 << r : bits & ~(1 << r);
    }
}
