/** Passage 4, promises 20 to 25: each sentence that names a boundary has a test of its own. */
public final class EdgesNightsTest {
    private static final Check c = new Check("EdgesNightsTest");

    public static void main(String[] args) {
        holeRefused();
        eightHoles();
        holeBadAheadOfFull();
        nightRefused();
        noHoles();
        fromBeatToUntil();
        noBeatAtAll();
        untilTheLastBeats();
        theLeastUntilFirst();
        holesThatAreThere();
        oneBeatForSeveral();
        leastNotByNinetyNine();
        nightByEachNumber();
        dry();
        holesStay();
        tellRefused();
        tellWhereNobodyIs();
        thirtyTold();
        tellBadAheadOfFull();
        toldIsNotThrown();
        cheatsRefused();
        nothingTold();
        twiceWithOneSpade();
        eachDiggerWithEachSpade();
        falseByDigger();
        falseBySpade();
        falseRoundsOnce();
        falseRoundsOfAll();
        c.close();
    }

    private static SpadeRings holes(int... numbers) {
        SpadeRings x = new SpadeRings();
        for (int i = 0; i + 2 < numbers.length; i += 3) {
            c.due("hole", x.hole(numbers[i], numbers[i + 1], numbers[i + 2]), i / 3 + 1);
        }
        return x;
    }

    /** The least q, with night() just below it, at it and above it. */
    private static void least(SpadeRings x, int want) {
        c.due("least", x.least(), want);
        for (int q = 1; q <= 99; q++) {
            c.due("night " + q, x.night(q), want != SpadeRings.NONE && q >= want ? 1 : 0);
        }
    }

    // ---- holes

    private static void holeRefused() {
        c.says("from beat t on (0 .. 99) c clods (1 .. 99) by beat u (t .. 200): BAD");
        int[][] bad = {{-1, 1, 5}, {100, 1, 150}, {100, 1, 100}, {5, 0, 9}, {5, 100, 9}, {5, -1, 9}, {5, 1, 4}, {0, 1, -1},
            {99, 1, 98}, {5, 1, 201}, {0, 1, 201}, {99, 99, 201}, {Integer.MIN_VALUE, 1, 1}, {Integer.MAX_VALUE, 1, 1},
            {1, Integer.MIN_VALUE, 1}, {1, Integer.MAX_VALUE, 1}, {1, 1, Integer.MIN_VALUE}, {1, 1, Integer.MAX_VALUE}};
        for (int[] b : bad) {
            SpadeRings x = new SpadeRings();
            c.due("hole " + b[0] + " " + b[1] + " " + b[2], x.hole(b[0], b[1], b[2]), SpadeRings.BAD);
            c.due("holes", x.count(3), 0);
            c.due("least", x.least(), 1);
        }
        int[][] good = {{0, 1, 0}, {0, 1, 200}, {99, 1, 99}, {99, 1, 200}, {0, 99, 200}, {99, 99, 99}, {50, 1, 50}, {50, 1, 51}};
        for (int[] g : good) {
            c.due("hole " + g[0] + " " + g[1] + " " + g[2], new SpadeRings().hole(g[0], g[1], g[2]), 1);
        }
    }

    private static void eightHoles() {
        c.says("HOLES (8 at most): how many there are. FULL.");
        SpadeRings x = new SpadeRings();
        for (int i = 1; i <= 8; i++) {
            c.due("hole", x.hole(i, i, 99 + i), i);
            c.due("count", x.count(3), i);
        }
        for (int again = 0; again < 2; again++) {
            c.due("a ninth hole", x.hole(0, 99, 0), SpadeRings.FULL);
            c.due("count", x.count(3), 8);
            least(x, 1);
        }
        c.due("dry", x.dry(), 8);
        c.due("there is room again", x.hole(0, 2, 1), 1);
        least(x, 2);
    }

    private static void holeBadAheadOfFull() {
        c.says("Refused the first of these: BAD, FULL");
        SpadeRings x = holes(0, 1, 9, 0, 1, 9, 0, 1, 9, 0, 1, 9, 0, 1, 9, 0, 1, 9, 0, 1, 9, 0, 1, 9);
        int[][] bad = {{-1, 1, 5}, {100, 1, 150}, {5, 0, 9}, {5, 100, 9}, {5, 1, 4}, {5, 1, 201}};
        for (int[] b : bad) {
            c.due("hole " + b[0] + " " + b[1] + " " + b[2], x.hole(b[0], b[1], b[2]), SpadeRings.BAD);
        }
        c.due("as told", x.hole(0, 1, 9), SpadeRings.FULL);
    }

    // ---- nights

    private static void nightRefused() {
        c.says("with q clods a beat (1 .. 99): BAD");
        for (int q : new int[] {Integer.MIN_VALUE, -1, 0, 100, 101, Integer.MAX_VALUE}) {
            c.due("night " + q, new SpadeRings().night(q), SpadeRings.BAD);
            c.due("night " + q, holes(0, 99, 0).night(q), SpadeRings.BAD);
        }
        c.due("the least", holes(0, 1, 1).night(1), 1);
        c.due("the greatest", holes(0, 99, 1).night(99), 1);
    }

    private static void noHoles() {
        c.says("whether all are closed in time: there are none");
        least(new SpadeRings(), 1);
    }

    private static void fromBeatToUntil() {
        c.says("from beat t to u less 1");
        int[] starts = {0, 1, 50, 99};
        for (int t : starts) {
            least(holes(t, 1, t + 1), 1);
            least(holes(t, 2, t + 1), 2);
            least(holes(t, 5, t + 5), 1);
            least(holes(t, 6, t + 5), 2);
            least(holes(t, 10, t + 5), 2);
            least(holes(t, 11, t + 5), 3);
            least(holes(t, 99, t + 99), 1);
            least(holes(t, 99, t + 98), 2);
            least(holes(t, 99, t + 1), 99);
        }
    }

    private static void noBeatAtAll() {
        c.says("by beat u (t .. 200): u is t");
        least(holes(0, 1, 0), SpadeRings.NONE);
        least(holes(99, 1, 99), SpadeRings.NONE);
        least(holes(0, 1, 200, 5, 1, 5), SpadeRings.NONE);
        least(holes(5, 1, 5, 0, 1, 200), SpadeRings.NONE);
    }

    private static void untilTheLastBeats() {
        c.says("u (t .. 200)");
        least(holes(99, 99, 200), 1);
        least(holes(99, 99, 200, 99, 2, 200), 1);
        least(holes(99, 99, 200, 99, 3, 200), 2);
        least(holes(0, 99, 200, 0, 99, 200, 0, 2, 200), 1);
        least(holes(0, 99, 200, 0, 99, 200, 0, 3, 200), 2);
        least(holes(0, 99, 200, 0, 99, 200, 0, 99, 200, 0, 99, 200, 0, 99, 200, 0, 99, 200, 0, 99, 200, 0, 99, 200), 4);
    }

    private static void theLeastUntilFirst() {
        c.says("first that with the least u, then the first told");
        least(holes(0, 2, 4, 0, 2, 2), 1);
        least(holes(0, 2, 2, 0, 2, 4), 1);
        least(holes(0, 3, 4, 0, 2, 2), 2);
        // Told first, there first, but it ends later.
        least(holes(0, 4, 6, 2, 2, 4), 1);
        least(holes(0, 5, 6, 2, 2, 4), 2);
        // Alike in u.
        least(holes(0, 2, 5, 0, 3, 5), 1);
        least(holes(0, 3, 5, 0, 3, 5), 2);
        least(holes(3, 2, 5, 0, 3, 5), 1);
        least(holes(3, 3, 5, 0, 2, 5), 2);
    }

    private static void holesThatAreThere() {
        c.says("to holes that are there");
        // Nothing can be put in ahead: beats 0 .. 8 are idle.
        least(holes(9, 4, 11), 2);
        least(holes(0, 1, 200, 9, 4, 11), 2);
        // Between the two of them nothing is to be done.
        least(holes(0, 2, 2, 4, 4, 6), 2);
        least(holes(0, 2, 2, 4, 2, 6), 1);
    }

    private static void oneBeatForSeveral() {
        c.says("with q clods a beat: what one hole doesn't take goes to the next");
        least(holes(0, 1, 1, 0, 1, 1, 0, 1, 1), 3);
        least(holes(0, 3, 2, 0, 3, 2), 3);
        least(holes(0, 10, 5, 2, 4, 4), 3);
        least(holes(0, 5, 3, 1, 5, 3, 2, 2, 3), 4);
    }

    private static void leastNotByNinetyNine() {
        c.says("the least q by which they are (NONE: not by 99)");
        least(holes(0, 98, 1), 98);
        least(holes(0, 99, 1), 99);
        least(holes(0, 99, 1, 0, 1, 1), SpadeRings.NONE);
        least(holes(0, 99, 2, 0, 99, 2), 99);
        least(holes(0, 99, 2, 0, 99, 2, 1, 1, 2), SpadeRings.NONE);
        least(holes(0, 99, 8, 0, 99, 8, 0, 99, 8, 0, 99, 8, 0, 99, 8, 0, 99, 8, 0, 99, 8, 0, 99, 8), 99);
        least(holes(0, 99, 7, 0, 99, 7, 0, 99, 7, 0, 99, 7, 0, 99, 7, 0, 99, 7, 0, 99, 7, 0, 99, 7), SpadeRings.NONE);
    }

    private static void nightByEachNumber() {
        c.says("whether all are closed in time with q clods (1, 0)");
        for (int clods = 1; clods <= 99; clods++) {
            least(holes(7, clods, 8), clods);
        }
    }

    private static void dry() {
        c.says("No HOLES: how many there were.");
        c.due("none", new SpadeRings().dry(), 0);
        for (int n = 1; n <= 8; n++) {
            SpadeRings x = new SpadeRings();
            for (int i = 0; i < n; i++) {
                x.hole(0, 99, 0);
            }
            c.due("dry", x.dry(), n);
            c.due("count", x.count(3), 0);
            c.due("least", x.least(), 1);
            c.due("night", x.night(1), 1);
            c.due("dry", x.dry(), 0);
            c.due("hole", x.hole(0, 1, 1), 1);
            c.due("least", x.least(), 1);
        }
    }

    private static void holesStay() {
        c.says("HOLES stay");
        SpadeRings x = holes(0, 7, 1, 0, 9, 1);
        x.keep(0);
        Check.write(x, Check.fullGang());
        c.due("gang", x.gang(), 22);
        c.due("read anew", x.least(), 16);
        x.anew();
        x.ends();
        x.keep(1);
        x.back(1);
        c.due("count", x.count(3), 2);
        c.due("least", x.least(), 16);
    }

    // ---- told

    private static void tellRefused() {
        c.says("in ROUND r (0 .. 99) digger d threw with SPADE s: BAD");
        SpadeRings x = Check.gang(Check.fullGang());
        int[][] bad = {{-1, 0, 0}, {100, 0, 0}, {0, -1, 0}, {0, 6, 0}, {0, 0, -1}, {0, 0, 8}, {100, 6, 8},
            {Integer.MIN_VALUE, 0, 0}, {Integer.MAX_VALUE, 0, 0}, {0, Integer.MIN_VALUE, 0}, {0, Integer.MAX_VALUE, 0},
            {0, 0, Integer.MIN_VALUE}, {0, 0, Integer.MAX_VALUE}};
        for (int[] b : bad) {
            c.due("tell " + b[0] + " " + b[1] + " " + b[2], x.tell(b[0], b[1], b[2]), SpadeRings.BAD);
            c.due("count", x.count(4), 0);
        }
        c.due("the least", x.tell(0, 0, 0), 1);
        c.due("the greatest", x.tell(99, 5, 7), 2);
        SpadeRings small = Check.gang("digger1 1;digger1 1;spade1;spade1;spade1;");
        c.due("one more digger", small.tell(0, 2, 0), SpadeRings.BAD);
        c.due("one more spade", small.tell(0, 0, 3), SpadeRings.BAD);
        c.due("the last ones", small.tell(0, 1, 2), 1);
    }

    private static void tellWhereNobodyIs() {
        c.says("there is no such thing: BAD");
        c.due("nobody, nothing", new SpadeRings().tell(0, 0, 0), SpadeRings.BAD);
        c.due("nobody", Check.gang("spade1;").tell(0, 0, 0), SpadeRings.BAD);
        c.due("nothing", Check.gang("digger1 1;").tell(0, 0, 0), SpadeRings.BAD);
    }

    private static void thirtyTold() {
        c.says("TOLD (30 at most): how much there is. FULL.");
        SpadeRings x = Check.gang(Check.fullGang());
        for (int i = 1; i <= 30; i++) {
            c.due("tell", x.tell(i, i % 6, i / 6), i);
            c.due("count", x.count(4), i);
        }
        for (int again = 0; again < 2; again++) {
            c.due("a thirty-first", x.tell(1, 1, 0), SpadeRings.FULL);
            c.due("count", x.count(4), 30);
            c.due("no cheats", x.cheats(0), 0);
            c.due("nothing false", x.cheats(1), 0);
        }
        c.due("read anew", x.gang(), 0);
        Check.write(x, "digger1 1;spade1;");
        c.due("gang", x.gang(), 2);
        c.due("there is room again", x.tell(0, 0, 0), 1);
    }

    private static void tellBadAheadOfFull() {
        c.says("Refused the first of these: BAD, FULL");
        SpadeRings x = Check.gang("digger1 1;spade1;");
        for (int i = 1; i <= 30; i++) {
            x.tell(i, 0, 0);
        }
        int[][] bad = {{-1, 0, 0}, {100, 0, 0}, {0, -1, 0}, {0, 1, 0}, {0, 0, -1}, {0, 0, 1}};
        for (int[] b : bad) {
            c.due("tell " + b[0] + " " + b[1] + " " + b[2], x.tell(b[0], b[1], b[2]), SpadeRings.BAD);
        }
        c.due("as told", x.tell(0, 0, 0), SpadeRings.FULL);
    }

    private static void toldIsNotThrown() {
        c.says("It is TOLD: whatever may be");
        SpadeRings x = Check.gang("digger1 1;digger1 1left;spade1;spade1right;spade1left;");
        x.breaks(0);
        c.due("broken", x.tell(0, 0, 0), 1);
        c.due("of the other hand", x.tell(0, 1, 1), 2);
        c.due("a later round", x.tell(99, 1, 2), 3);
        c.due("threw with none", x.digger(1, 3), 0);
        c.due("nobody threw", x.now(4), 0);
        c.due("may", x.may(1, 2), 1);
        c.due("a throw is not told", x.throwWith(1, 2), 1);
        c.due("count", x.count(4), 3);
        c.due("no cheats", x.cheats(0), 0);
        x.anew();
        c.due("it stays", x.count(4), 3);
    }

    // ---- cheats

    private static void cheats(SpadeRings x, int who, int falseRounds) {
        c.due("cheats", x.cheats(0), who);
        c.due("false", x.cheats(1), falseRounds);
    }

    private static SpadeRings told(int... numbers) {
        SpadeRings x = Check.gang(Check.fullGang());
        for (int i = 0; i + 2 < numbers.length; i += 3) {
            c.due("tell", x.tell(numbers[i], numbers[i + 1], numbers[i + 2]), i / 3 + 1);
        }
        return x;
    }

    private static void cheatsRefused() {
        c.says("CHEATS, as bits (what = 0), FALSE (1). BAD.");
        for (int what : new int[] {Integer.MIN_VALUE, -1, 2, 3, Integer.MAX_VALUE}) {
            c.due("cheats " + what, new SpadeRings().cheats(what), SpadeRings.BAD);
            c.due("cheats " + what, told(0, 0, 0).cheats(what), SpadeRings.BAD);
        }
    }

    private static void nothingTold() {
        c.says("CHEATS: nothing is told");
        cheats(new SpadeRings(), 0, 0);
        cheats(told(), 0, 0);
        cheats(told(0, 0, 0), 0, 0);
        SpadeRings x = told(0, 0, 0, 1, 0, 0, 1, 0, 1);
        cheats(x, 1, 1);
        x.gang();
        cheats(x, 0, 0);
    }

    private static void twiceWithOneSpade() {
        c.says("twice or more with one SPADE (in two ROUNDS unlike, or one and the same told twice)");
        cheats(told(0, 2, 3, 1, 2, 3), 4, 0);
        cheats(told(0, 2, 3, 0, 2, 3), 4, 0);
        cheats(told(99, 2, 3, 0, 2, 3), 4, 0);
        cheats(told(0, 2, 3, 1, 2, 3, 2, 2, 3), 4, 0);
        cheats(told(0, 2, 3, 0, 2, 3, 0, 2, 3), 4, 0);
        cheats(told(0, 2, 3, 1, 2, 4, 2, 2, 5), 0, 0);
        cheats(told(0, 2, 3, 1, 4, 3, 2, 5, 3), 0, 0);
        cheats(told(0, 2, 3, 1, 4, 3, 2, 5, 1, 3, 2, 3), 4, 0);
        cheats(told(0, 1, 1, 1, 1, 2, 2, 1, 3, 3, 1, 2), 2, 0);
    }

    /** No digger's spade is taken for another one's. */
    private static void eachDiggerWithEachSpade() {
        c.says("CHEATS, as bits");
        for (int d = 0; d < 6; d++) {
            for (int s = 0; s < 8; s++) {
                SpadeRings x = told(50, d, s);
                int more = 0;
                for (int other = 0; other < 6; other++) {
                    for (int with = 0; with < 8 && more < 29; with++) {
                        if (other != d && with != s && (other + with) % 2 == 0) {
                            x.tell(more, other, with);
                            more++;
                        }
                    }
                }
                cheats(x, 0, 0);
                x = told(50, d, s, 51, d, s);
                cheats(x, 1 << d, 0);
            }
        }
        SpadeRings all = Check.gang(Check.fullGang());
        for (int i = 0; i < 12; i++) {
            all.tell(i, i % 6, 7 - i % 6);
        }
        cheats(all, 63, 0);
    }

    private static void falseByDigger() {
        c.says("FALSE: ROUNDS in which one is told to have thrown with two SPADES");
        for (int r : new int[] {0, 1, 98, 99}) {
            cheats(told(r, 3, 6, r, 3, 7), 0, 1);
            cheats(told(r, 3, 6, 50, 3, 7), 0, 0);
            cheats(told(r, 3, 6, r, 3, 6), 8, 0);
            cheats(told(r, 3, 6, r, 4, 7), 0, 0);
        }
    }

    private static void falseBySpade() {
        c.says("FALSE: or two with one");
        for (int r : new int[] {0, 1, 98, 99}) {
            cheats(told(r, 4, 6, r, 5, 6), 0, 1);
            cheats(told(r, 4, 6, 50, 5, 6), 0, 0);
        }
        cheats(told(7, 0, 0, 7, 5, 7, 7, 3, 3, 7, 1, 7), 0, 1);
    }

    private static void falseRoundsOnce() {
        c.says("FALSE: how many ROUNDS");
        cheats(told(7, 0, 0, 7, 0, 1, 7, 0, 2), 0, 1);
        cheats(told(7, 0, 0, 7, 0, 1, 7, 1, 1), 0, 1);
        cheats(told(7, 0, 0, 7, 0, 1, 7, 1, 2, 7, 1, 3), 0, 1);
        cheats(told(7, 0, 0, 8, 1, 1, 7, 0, 1, 8, 2, 1), 0, 2);
        cheats(told(7, 0, 0, 7, 0, 0, 7, 0, 1), 1, 1);
        cheats(told(7, 0, 0, 7, 0, 0, 7, 1, 1, 7, 1, 1), 3, 0);
    }

    private static void falseRoundsOfAll() {
        c.says("30 at most: FALSE in fifteen ROUNDS");
        SpadeRings x = Check.gang(Check.fullGang());
        for (int i = 0; i < 15; i++) {
            x.tell(99 - i, i % 6, i / 2);
            c.due("false", x.cheats(1), i);
            x.tell(99 - i, (i + 1) % 6, i / 2);
            c.due("false", x.cheats(1), i + 1);
        }
    }
}
