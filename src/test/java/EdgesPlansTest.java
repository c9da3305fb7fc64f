/** Passage 3, promises 14 to 19: each sentence that names a boundary has a test of its own. */
public final class EdgesPlansTest {
    private static final Check c = new Check("EdgesPlansTest");

    public static void main(String[] args) {
        longestWithoutDiggers();
        longestByNumbers();
        longestOfTheOneWhoHasLeast();
        longestFollowsThisRound();
        longestAsTheyMay();
        beginsNone();
        beginsRefused();
        beginsWithTheFirstRow();
        beginsSoThatAsManyFollow();
        mostRefused();
        mostOfOneDigger();
        mostOfOneSpade();
        mostOfAll();
        mostOfNone();
        mostByGivingBack();
        mostAsTheyMay();
        ringsRefused();
        ringsOfNobody();
        ringsAsOftenAsPaceIsInBeats();
        ringsAllTheirStrengths();
        ringsAtMost();
        ringsTheLeastBits();
        ringsTheNextRingByItsLeastDigger();
        meetingRefused();
        meetingWithoutYards();
        meetingOfOneClod();
        meetingOneFirst();
        meetingNoMoreThanThereIs();
        meetingOnIntoTheNextYard();
        meetingInWhichYard();
        meetingLeastAndGreatest();
        meetingWholeYards();
        songsRefused();
        songsAtTheLaterBeat();
        songsNever();
        songsAtTheLast();
        c.close();
    }

    // ---- helps

    /** Diggers 0 .. each with those spades (bits) that it still may throw with: all others it threw with. */
    private static SpadeRings open(int spades, int... sets) {
        SpadeRings x = Check.gang("digger1 1;".repeat(sets.length) + "spade1;".repeat(spades));
        for (int d = 0; d < sets.length; d++) {
            for (int s = 0; s < spades; s++) {
                if ((sets[d] >> s & 1) == 0) {
                    x.throwWith(d, s);
                    x.ends();
                }
            }
        }
        return x;
    }

    private static void begins(SpadeRings x, int longest, int... row) {
        c.due("longest", x.longest(), longest);
        for (int d = 0; d < row.length; d++) {
            c.due("begins " + d, x.begins(d), row[d]);
        }
        c.due("begins, one more", x.begins(row.length), SpadeRings.BAD);
    }

    private static int[] alike(int times, int number) {
        int[] row = new int[times];
        for (int i = 0; i < times; i++) {
            row[i] = number;
        }
        return row;
    }

    // ---- longest

    private static void longestWithoutDiggers() {
        c.says("LONGEST: 0 without diggers");
        c.due("nobody, nothing", new SpadeRings().longest(), 0);
        for (int spades = 1; spades <= 8; spades++) {
            c.due("nobody", Check.gang("spade1;".repeat(spades)).longest(), 0);
        }
    }

    private static void longestByNumbers() {
        c.says("the most ROUNDS in each of which each digger throws with another SPADE (nobody twice with one)");
        for (int diggers = 1; diggers <= 6; diggers++) {
            for (int spades = 0; spades <= 8; spades++) {
                SpadeRings x = Check.gang("digger1 1;".repeat(diggers) + "spade1;".repeat(spades));
                c.due(diggers + " diggers, " + spades + " spades", x.longest(), spades < diggers ? 0 : spades);
            }
        }
    }

    private static void longestOfTheOneWhoHasLeast() {
        c.says("all as they MAY: no longer than the one who has the fewest SPADES");
        for (int has = 0; has <= 8; has++) {
            for (int who = 0; who < 3; who++) {
                int[] sets = alike(3, 255);
                sets[who] = (1 << has) - 1;
                c.due("digger " + who + " has " + has, open(8, sets).longest(), has);
            }
        }
        // Two diggers with the same spade alone; three with the same two.
        c.due("two to one", open(8, 4, 255, 4).longest(), 0);
        c.due("three to two", open(8, 6, 6, 6, 255).longest(), 0);
        c.due("three to three", open(8, 7, 7, 7, 255).longest(), 3);
        // Each has two, but two of the three spades can't bear six throws in two rounds.
        c.due("six throws with three", open(3, 3, 5, 6).longest(), 2);
        c.due("one round only", open(4, 3, 3, 5, 15).longest(), 1);
    }

    private static void longestFollowsThisRound() {
        c.says("ROUNDS that can follow this one");
        SpadeRings x = Check.gang("digger1 1;digger1 1;spade1;spade1;");
        begins(x, 2, 0, 1);
        x.throwWith(0, 0);
        begins(x, 1, 1, 0);
        x.throwWith(1, 1);
        begins(x, 1, 1, 0);
        x.ends();
        begins(x, 1, 1, 0);
        x.throwWith(0, 1);
        x.throwWith(1, 0);
        begins(x, 0, SpadeRings.NONE, SpadeRings.NONE);
    }

    private static void longestAsTheyMay() {
        c.says("all as they MAY");
        SpadeRings x = Check.gang("digger1 1;digger1 1left;spade1;spade1;spade1right;spade1left;");
        begins(x, 3, 0, 1);
        x.breaks(3);
        begins(x, 2, 0, 1);
        x.breaks(0);
        begins(x, 1, 2, 1);
        x.breaks(2);
        begins(x, 0, SpadeRings.NONE, SpadeRings.NONE);
        x.anew();
        begins(x, 3, 0, 1);
        begins(Check.gang("digger1 1;spade1left;spade1left;"), 0, SpadeRings.NONE);
        begins(Check.gang("digger1 1left;spade1right;spade1right;"), 0, SpadeRings.NONE);
        begins(Check.gang("digger1 1left;spade1right;spade1left;"), 1, 1);
    }

    // ---- begins

    private static void beginsNone() {
        c.says("the SPADE of a digger (NONE, if LONGEST is 0)");
        begins(Check.gang("digger1 1;digger1 1;digger1 1;"), 0, alike(3, SpadeRings.NONE));
        begins(Check.gang("digger1 1;digger1 1;spade1;"), 0, alike(2, SpadeRings.NONE));
        begins(Check.gang("digger1 1;".repeat(6) + "spade1;".repeat(5)), 0, alike(6, SpadeRings.NONE));
        // A row that was there before isn't told any more.
        SpadeRings x = Check.gang("digger1 1;digger1 1;spade1;spade1;");
        begins(x, 2, 0, 1);
        x.breaks(0);
        begins(x, 0, alike(2, SpadeRings.NONE));
    }

    private static void beginsRefused() {
        c.says("begins: BAD, also where LONGEST is 0");
        SpadeRings full = Check.gang(Check.fullGang());
        SpadeRings none = Check.gang("digger1 1;".repeat(6));
        for (int d : new int[] {-1, 6, 7, Integer.MIN_VALUE, Integer.MAX_VALUE}) {
            c.due("begins " + d, full.begins(d), SpadeRings.BAD);
            c.due("begins " + d, none.begins(d), SpadeRings.BAD);
            c.due("begins " + d, new SpadeRings().begins(d), SpadeRings.BAD);
        }
        c.due("nobody", new SpadeRings().begins(0), SpadeRings.BAD);
        c.due("the last one", full.begins(5), 5);
        c.due("the last one", none.begins(5), SpadeRings.NONE);
    }

    private static void beginsWithTheFirstRow() {
        c.says("of all rows of SPADES (digger by digger) the first");
        for (int spades = 6; spades <= 8; spades++) {
            begins(Check.gang("digger1 1;".repeat(6) + "spade1;".repeat(spades)), spades, 0, 1, 2, 3, 4, 5);
        }
        begins(open(8, 128), 1, 7);
        begins(open(8, 192, 192), 2, 6, 7);
        begins(open(8, 128, 1), 1, 7, 0);
        begins(open(8, 3, 1), 1, 1, 0);
        begins(open(8, 255, 255, 255, 255, 255, 1), 1, 1, 2, 3, 4, 5, 0);
        begins(open(8, 6, 3, 1), 1, 2, 1, 0);
    }

    private static void beginsSoThatAsManyFollow() {
        c.says("for the first of these ROUNDS, behind which as many can follow as it needs");
        // Both have spade 2 as one of two: one of them must begin with it. The first row alone were 0, 1.
        begins(open(3, 5, 6), 2, 0, 2);
        begins(Check.gang("digger1 1;digger1 1left;spade1right;spade1left;spade1;"), 2, 0, 2);
        begins(open(5, 17, 18, 12), 2, 0, 4, 2);
        // Spade 5 is one of three for all of the three: each round needs it, so the last one begins with it.
        begins(open(6, 35, 44, 50), 3, 0, 2, 5);
        // A round less is to be followed, as digger 3 has two spades alone.
        begins(open(8, 35, 44, 50, 192), 2, 0, 2, 1, 6);
    }

    // ---- most

    private static void mostRefused() {
        c.says("MOST r (1 .. 6). BAD.");
        SpadeRings x = Check.gang(Check.fullGang());
        for (int r : new int[] {Integer.MIN_VALUE, -1, 0, 7, 8, Integer.MAX_VALUE}) {
            c.due("most " + r, x.most(r), SpadeRings.BAD);
            c.due("most " + r, new SpadeRings().most(r), SpadeRings.BAD);
        }
        for (int r = 1; r <= 6; r++) {
            c.due("most " + r, x.most(r), 6 * r);
        }
    }

    private static void mostOfOneDigger() {
        c.says("each digger once a ROUND at most, nobody twice with one");
        int[] sums = {8, 15, 21, 26, 30, 33};
        for (int r = 1; r <= 6; r++) {
            c.due("most " + r, Check.gang("digger1 1;spade1;spade3;spade5;spade7;spade8;spade6;spade4;spade2;").most(r),
                    sums[r - 1]);
            c.due("most " + r, Check.gang("digger3 1;spade5;spade4;").most(r), r == 1 ? 15 : 27);
        }
    }

    private static void mostOfOneSpade() {
        c.says("each SPADE once a ROUND at most");
        int[] sums = {8, 15, 20, 24, 26, 27};
        SpadeRings x = Check.gang("digger1 1;digger5 1;digger8 1;digger2 1;digger7 1;digger4 1;spade1;");
        for (int r = 1; r <= 6; r++) {
            c.due("most " + r, x.most(r), sums[r - 1]);
        }
    }

    private static void mostOfAll() {
        c.says("the greatest sum of STRENGTH times SHARP of all throws");
        SpadeRings x = Check.gang("digger9 1;".repeat(6) + "spade9;".repeat(8));
        for (int r = 1; r <= 6; r++) {
            c.due("most " + r, x.most(r), 486 * r);
        }
        // 9 spades' worth: six of the sharpest in one round, strong with sharp.
        SpadeRings y = Check.gang("digger1 1;digger2 1;digger3 1;digger4 1;digger5 1;digger6 1;"
                + "spade8;spade7;spade6;spade5;spade4;spade3;spade2;spade1;");
        c.due("most 1", y.most(1), 6 * 8 + 5 * 7 + 4 * 6 + 3 * 5 + 2 * 4 + 3);
        c.due("the yards' soil is nothing to it", Check.gang("digger9 1;spade9;yard 99 9;").most(1), 81);
    }

    private static void mostOfNone() {
        c.says("most: nobody, nothing to throw with");
        for (int r = 1; r <= 6; r++) {
            c.due("nobody, nothing", new SpadeRings().most(r), 0);
            c.due("nobody", Check.gang("spade1;spade1;").most(r), 0);
            c.due("nothing", Check.gang("digger1 1;digger1 1;").most(r), 0);
            c.due("of the other hand", Check.gang("digger1 1;spade9left;").most(r), 0);
        }
    }

    private static void mostByGivingBack() {
        c.says("the greatest sum: not the dearest throw first");
        SpadeRings x = Check.gang("digger 9 1;digger 8 1 left;spade 9;spade 8 right;");
        c.due("72 and 72, not 81 alone", x.most(1), 144);
        c.due("all three", x.most(2), 225);
        // Each has two spades in a row of them: the dearest one in the middle has to be let go.
        SpadeRings y = Check.gang("digger 9 1;digger 9 1;digger 9 1;spade 9;spade 8;spade 7;");
        int[][] thrown = {{0, 2}, {1, 0}, {1, 2}, {2, 1}, {2, 2}};
        for (int[] one : thrown) {
            y.throwWith(one[0], one[1]);
            y.ends();
        }
        c.due("0 has 0, 1; 1 has 1; 2 has 0", y.most(1), 81 + 72);
        c.due("all four", y.most(2), 81 + 72 + 72 + 81);
        SpadeRings z = Check.gang("digger 9 1;digger 5 1;digger 2 1;spade 9;spade 8;spade 7;");
        int[][] before = {{0, 2}, {1, 1}, {2, 0}, {2, 1}};
        for (int[] one : before) {
            z.throwWith(one[0], one[1]);
            z.ends();
        }
        c.due("0 has 0, 1; 1 has 0, 2; 2 has 2", z.most(1), 9 * 8 + 5 * 9 + 2 * 7);
        c.due("all five", z.most(2), 9 * 17 + 5 * 16 + 2 * 7);
    }

    private static void mostAsTheyMay() {
        c.says("as they MAY, in r ROUNDS that follow");
        SpadeRings x = Check.gang("digger 2 1;digger 3 1left;spade 9;spade 5right;spade 4left;spade 1;");
        c.due("10 and 27", x.most(1), 37);
        x.throwWith(1, 0);
        c.due("in this ROUND they threw, in the next ones they may", x.most(1), 30);
        x.ends();
        c.due("18 and 12", x.most(1), 30);
        x.breaks(2);
        c.due("18 and 3", x.most(1), 21);
        x.breaks(0);
        c.due("10 and 3", x.most(1), 13);
        c.due("2 more", x.most(2), 15);
        c.due("and no more", x.most(6), 15);
        x.anew();
        c.due("anew", x.most(1), 37);
    }

    // ---- rings

    private static void rings(SpadeRings x, int g, int t, int most, int... row) {
        c.due("rings " + g + " " + t, x.rings(g, t, 0), most);
        for (int d = 0; d < row.length; d++) {
            c.due("ring of " + d + ", rings " + g + " " + t, x.rings(g, t, 1 + d), row[d]);
        }
        c.due("no such one", x.rings(g, t, 1 + row.length), SpadeRings.BAD);
    }

    private static void ringsRefused() {
        c.says("RINGS g (1 .. 3), T beats (1 .. 999): BAD (d: no such one).");
        SpadeRings x = Check.gang("digger 1 1;".repeat(6));
        int[][] bad = {{0, 1, 0}, {4, 1, 0}, {-1, 1, 0}, {1, 0, 0}, {1, -1, 0}, {1, 1000, 0}, {1, 1, -1}, {1, 1, 7},
            {3, 999, 7}, {3, 1000, 6}, {4, 999, 6}, {Integer.MIN_VALUE, 1, 0}, {Integer.MAX_VALUE, 1, 0},
            {1, Integer.MIN_VALUE, 0}, {1, Integer.MAX_VALUE, 0}, {1, 1, Integer.MIN_VALUE}, {1, 1, Integer.MAX_VALUE}};
        for (int[] b : bad) {
            c.due("rings " + b[0] + " " + b[1] + " " + b[2], x.rings(b[0], b[1], b[2]), SpadeRings.BAD);
        }
        c.due("the least", x.rings(1, 1, 0), 6);
        c.due("the greatest", x.rings(3, 999, 0), 5994);
        c.due("the last digger", x.rings(1, 1, 6), 63);
        for (int n = 1; n <= 6; n++) {
            SpadeRings y = Check.gang("digger 1 1;".repeat(n));
            c.due("the last one of " + n, y.rings(1, 1, n), (1 << n) - 1);
            c.due("one more than " + n, y.rings(1, 1, n + 1), SpadeRings.BAD);
        }
    }

    private static void ringsOfNobody() {
        c.says("RINGS without diggers");
        for (int g = 1; g <= 3; g++) {
            rings(new SpadeRings(), g, 1, 0);
            rings(Check.gang("spade 9;yard 1 1;"), g, 999, 0);
        }
    }

    private static void ringsAsOftenAsPaceIsInBeats() {
        c.says("a ring throws in T beats as often as its greatest PACE is in T");
        for (int pace = 1; pace <= 9; pace++) {
            SpadeRings x = Check.gang("digger 5 " + pace + ";digger 2 1;");
            for (int times = 1; times <= 3; times++) {
                c.due("just in it", x.rings(1, times * pace, 0), 7 * times);
                if (pace > 1) {
                    c.due("a beat more", x.rings(1, times * pace + 1, 0), 7 * times);
                    c.due("a beat less", x.rings(1, times * pace - 1, 0), 7 * times - 7);
                }
            }
            int often = 0;
            for (int beat = pace; beat <= 999; beat += pace) {
                often++;
            }
            c.due("in 999", x.rings(1, 999, 0), 7 * often);
        }
    }

    private static void ringsAllTheirStrengths() {
        c.says("each time all its STRENGTHS: the most");
        rings(Check.gang("digger 9 9;digger 9 9;digger 9 9;digger 9 9;digger 9 9;digger 9 9;"), 1, 9, 54, alike(6, 63));
        rings(Check.gang("digger 9 1;".repeat(6)), 1, 999, 999 * 54, alike(6, 63));
        // 10 beats: paces 4, 2, 9 throw 2, 5, 1 times.
        SpadeRings x = Check.gang("digger 5 4;digger 3 2;digger 9 9;");
        rings(x, 1, 10, 17, 7, 7, 7);
        rings(x, 2, 10, 5 * 2 + 9 + 3 * 5 - 5, 5, 2, 5);
        rings(x, 3, 10, 5 * 2 + 3 * 5 + 9, 1, 2, 4);
    }

    private static void ringsAtMost() {
        c.says("the diggers are parted into g rings at most (all are in one)");
        for (int g = 1; g <= 3; g++) {
            rings(Check.gang("digger 4 2;"), g, 5, 8, 1);
        }
        SpadeRings two = Check.gang("digger 1 1;digger 1 2;");
        rings(two, 1, 2, 2, 3, 3);
        rings(two, 2, 2, 3, 1, 2);
        rings(two, 3, 2, 3, 1, 2);
        // Four paces: with three rings two of them have to go together.
        SpadeRings four = Check.gang("digger 1 1;digger 1 2;digger 1 3;digger 1 4;");
        rings(four, 1, 12, 12, 15, 15, 15, 15);
        rings(four, 2, 12, 12 + 3 * 3, 1, 14, 14, 14);
        rings(four, 3, 12, 12 + 6 + 2 * 3, 1, 2, 12, 12);
    }

    private static void ringsTheLeastBits() {
        c.says("of several the first by these (the least bits)");
        SpadeRings alike = Check.gang("digger 1 1;".repeat(6));
        rings(alike, 1, 1, 6, alike(6, 63));
        rings(alike, 2, 1, 6, 1, 62, 62, 62, 62, 62);
        rings(alike, 3, 1, 6, 1, 2, 60, 60, 60, 60);
        // Nobody throws at all: all partings are alike.
        SpadeRings slow = Check.gang("digger 9 9;digger 8 9;digger 7 9;digger 6 9;");
        rings(slow, 1, 8, 0, 15, 15, 15, 15);
        rings(slow, 2, 8, 0, 1, 14, 14, 14);
        rings(slow, 3, 8, 0, 1, 2, 12, 12);
        // Digger 0 alone is worth nothing less, but the second ring has to be the slow ones' or not.
        SpadeRings mixed = Check.gang("digger 1 1;digger 1 9;digger 1 1;digger 1 9;");
        rings(mixed, 2, 9, 20, 5, 10, 5, 10);
        rings(mixed, 3, 9, 20, 1, 10, 4, 10);
    }

    /** In 9 beats they throw 9, 2, 1, 3 times: digger 1 with digger 2 or with digger 3 loses alike. */
    private static void ringsTheNextRingByItsLeastDigger() {
        c.says("the ring of the least digger that is in none ahead");
        rings(Check.gang("digger 9 1;digger 1 4;digger 1 9;digger 1 3;"), 3, 9, 86, 1, 6, 6, 8);
        rings(Check.gang("digger 1 4;digger 9 1;digger 1 9;digger 1 3;"), 3, 9, 86, 5, 2, 5, 8);
        rings(Check.gang("digger 1 4;digger 1 9;digger 1 3;"), 2, 9, 5, 3, 3, 4);
        rings(Check.gang("digger 1 4;digger 1 3;digger 1 9;"), 2, 9, 5, 3, 3, 4);
        rings(Check.gang("digger 1 9;digger 1 4;digger 1 3;"), 2, 9, 5, 1, 6, 6);
    }

    // ---- meeting

    private static void meeting(SpadeRings x, int a, int p, int b, int q, int... want) {
        for (int what = 0; what <= 2; what++) {
            String call = "meeting " + a + " " + p + " " + b + " " + q + " " + what;
            c.due(call, x.meeting(a, p, b, q, what), want[what]);
        }
    }

    private static void meetingRefused() {
        c.says("1 .. 99 each; meeting: BAD.");
        SpadeRings yard = Check.gang("yard 1 1;");
        SpadeRings none = new SpadeRings();
        int[] one = {1, 1, 1, 1, 0};
        for (int i = 0; i < 4; i++) {
            for (int number : new int[] {Integer.MIN_VALUE, -1, 0, 100, Integer.MAX_VALUE}) {
                int[] m = one.clone();
                m[i] = number;
                c.due("meeting, " + i + " is " + number, yard.meeting(m[0], m[1], m[2], m[3], m[4]), SpadeRings.BAD);
                c.due("without yards, " + i + " is " + number, none.meeting(m[0], m[1], m[2], m[3], m[4]), SpadeRings.BAD);
            }
        }
        for (int what : new int[] {Integer.MIN_VALUE, -1, 3, 4, Integer.MAX_VALUE}) {
            c.due("meeting, what " + what, yard.meeting(1, 1, 1, 1, what), SpadeRings.BAD);
            c.due("without yards, what " + what, none.meeting(1, 1, 1, 1, what), SpadeRings.BAD);
        }
        for (int i = 0; i < 4; i++) {
            int[] m = one.clone();
            m[i] = 99;
            c.due("the greatest number, " + i, yard.meeting(m[0], m[1], m[2], m[3], m[4]), 1);
        }
    }

    private static void meetingWithoutYards() {
        c.says("at which beat (NONE: no YARDS)");
        meeting(new SpadeRings(), 1, 1, 1, 1, alike(3, SpadeRings.NONE));
        meeting(new SpadeRings(), 99, 99, 99, 99, alike(3, SpadeRings.NONE));
        meeting(Check.gang("digger 1 1;spade 1;"), 5, 4, 3, 2, alike(3, SpadeRings.NONE));
    }

    private static void meetingOfOneClod() {
        c.says("at beats p, 2 p, ..: whoever ends the last clods there are, ends it");
        SpadeRings x = Check.gang("yard 1 1;");
        meeting(x, 1, 1, 1, 1, 1, 0, 1);
        meeting(x, 99, 99, 99, 99, 99, 0, 1);
        meeting(x, 1, 98, 1, 99, 98, 0, 1);
        meeting(x, 1, 99, 1, 98, 98, 0, 0);
        SpadeRings two = Check.gang("yard 2 1;");
        meeting(two, 1, 7, 1, 99, 14, 0, 2);
        meeting(two, 1, 99, 1, 7, 14, 0, 0);
        meeting(two, 1, 3, 1, 4, 4, 0, 1);
        meeting(two, 1, 4, 1, 3, 4, 0, 1);
    }

    private static void meetingOneFirst() {
        c.says("both at one beat: the one first");
        SpadeRings x = Check.gang("yard 3 1;");
        meeting(x, 3, 5, 3, 5, 5, 0, 3);
        meeting(x, 2, 5, 3, 5, 5, 0, 2);
        meeting(x, 1, 5, 3, 5, 5, 0, 1);
        meeting(x, 1, 6, 1, 3, 6, 0, 1);
        SpadeRings two = Check.gang("yard 1 1;yard 1 1;");
        meeting(two, 1, 2, 1, 2, 2, 1, 1);
        meeting(two, 2, 2, 1, 2, 2, 1, 2);
        meeting(two, 1, 2, 1, 1, 2, 0, 1);
        meeting(two, 1, 1, 1, 2, 2, 1, 2);
    }

    private static void meetingNoMoreThanThereIs() {
        c.says("how much the first one dug: no more clods than there are");
        SpadeRings x = Check.gang("yard 5 2;");
        meeting(x, 10, 1, 1, 1, 1, 0, 10);
        meeting(x, 11, 1, 1, 1, 1, 0, 10);
        meeting(x, 99, 1, 99, 1, 1, 0, 10);
        meeting(x, 9, 1, 99, 1, 1, 0, 9);
        meeting(x, 4, 2, 3, 3, 4, 0, 7);
        meeting(x, 1, 99, 99, 98, 98, 0, 0);
    }

    private static void meetingOnIntoTheNextYard() {
        c.says("what a stroke has beyond a YARD goes on into the next one");
        SpadeRings x = Check.gang("yard 2 1;yard 2 1;yard 2 1;");
        meeting(x, 6, 1, 1, 99, 1, 2, 6);
        meeting(x, 5, 1, 1, 2, 2, 2, 6);
        meeting(x, 1, 99, 6, 1, 1, 0, 0);
        meeting(x, 1, 99, 5, 1, 2, 0, 0);
        meeting(x, 3, 1, 3, 1, 1, 1, 3);
    }

    private static void meetingInWhichYard() {
        c.says("in which YARD: The one begins with YARD 0, the other one with the last one");
        SpadeRings x = Check.gang("yard 2 1;yard 2 1;yard 2 1;");
        // The one ends it: by so many clods of the other one, which digs first.
        int[] ended = {2, 2, 1, 1, 0, 0};
        for (int other = 1; other <= 5; other++) {
            meeting(x, 99, 2, other, 1, 2, other == 1 ? 2 : ended[other], 6 - Math.min(6, other));
        }
        // The other one ends it: by so many clods of the one.
        for (int one = 1; one <= 5; one++) {
            meeting(x, one, 1, 99, 1, 1, one / 2, one);
        }
        SpadeRings eight = Check.gang("yard 1 1;".repeat(8));
        meeting(eight, 8, 1, 1, 99, 1, 7, 8);
        meeting(eight, 7, 1, 1, 1, 1, 7, 7);
        meeting(eight, 1, 99, 8, 1, 1, 0, 0);
        for (int one = 1; one <= 7; one++) {
            meeting(eight, one, 1, 99, 1, 1, one, one);
        }
    }

    private static void meetingLeastAndGreatest() {
        c.says("each YARD of DEEP times SOIL: all there can be");
        SpadeRings x = Check.gang("yard 99 9;".repeat(8));
        meeting(x, 1, 99, 1, 99, 3564 * 99, 4, 3564);
        meeting(x, 99, 99, 99, 99, 36 * 99, 4, 36 * 99);
        meeting(x, 99, 1, 99, 1, 36, 4, 36 * 99);
        meeting(x, 1, 1, 1, 99, 7128 - 72 + 1, 7, 7128 - 71);
        meeting(Check.gang("yard 99 9;yard 1 1;"), 99, 1, 1, 99, 10, 1, 892);
    }

    private static void meetingWholeYards() {
        c.says("dig all YARDS from both ends, each YARD of DEEP times SOIL");
        SpadeRings x = Check.gang("digger 9 1;spade 9;yard 5 2;");
        meeting(x, 1, 1, 1, 99, 10, 0, 10);
        x.throwWith(0, 0);
        meeting(x, 1, 1, 1, 99, 10, 0, 10);
    }

    // ---- songs

    private static void songsRefused() {
        c.says("two of p and q beats (1 .. 99), begun at beat a, at beat b (0 .. 999). BAD.");
        SpadeRings x = new SpadeRings();
        int[] least = {1, 0, 1, 0};
        int[] most = {99, 999, 99, 999};
        for (int i = 0; i < 4; i++) {
            int first = i % 2 == 0 ? 1 : 0;
            int last = i % 2 == 0 ? 99 : 999;
            for (int number : new int[] {Integer.MIN_VALUE, -1, first - 1, last + 1, Integer.MAX_VALUE}) {
                int[] m = least.clone();
                m[i] = number;
                c.due("songs, " + i + " is " + number, x.songs(m[0], m[1], m[2], m[3]), SpadeRings.BAD);
                int[] n = most.clone();
                n[i] = number;
                c.due("songs, " + i + " is " + number, x.songs(n[0], n[1], n[2], n[3]), SpadeRings.BAD);
            }
        }
        c.due("the least", x.songs(1, 0, 1, 0), 0);
        c.due("the greatest", x.songs(99, 999, 99, 999), 999);
    }

    private static void songsAtTheLaterBeat() {
        c.says("the first beat (b or a, the later one, at least) on which both begin anew");
        SpadeRings x = new SpadeRings();
        c.due("both at once", x.songs(7, 5, 9, 5), 5);
        c.due("the later one's, a", x.songs(9, 12, 4, 0), 12);
        c.due("the later one's, b", x.songs(4, 0, 9, 12), 12);
        c.due("not ahead of a", x.songs(9, 13, 4, 0), 40);
        c.due("not ahead of b", x.songs(4, 0, 9, 13), 40);
        c.due("a song ahead", x.songs(1, 999, 1, 0), 999);
        c.due("a song ahead", x.songs(1, 0, 1, 999), 999);
        c.due("one beat apart", x.songs(1, 0, 99, 1), 1);
    }

    private static void songsNever() {
        c.says("SONGS; NONE.");
        SpadeRings x = new SpadeRings();
        c.due("never", x.songs(2, 0, 2, 1), SpadeRings.NONE);
        c.due("never", x.songs(99, 0, 99, 1), SpadeRings.NONE);
        c.due("never", x.songs(99, 0, 99, 98), SpadeRings.NONE);
        c.due("always", x.songs(99, 0, 99, 99), 99);
        c.due("never", x.songs(98, 0, 96, 999), SpadeRings.NONE);
        c.due("BAD ahead of NONE", x.songs(2, 0, 2, 1001), SpadeRings.BAD);
    }

    private static void songsAtTheLast() {
        c.says("the first beat on which both begin anew: as late as can be");
        for (int b = 0; b <= 98; b++) {
            for (int a : new int[] {0, 98, 999}) {
                int beat = Math.max(a, b);
                while ((beat - a) % 99 != 0 || (beat - b) % 98 != 0) {
                    beat++;
                }
                c.due("songs 99 " + a + " 98 " + b, new SpadeRings().songs(99, a, 98, b), beat);
                c.due("songs 98 " + b + " 99 " + a, new SpadeRings().songs(98, b, 99, a), beat);
            }
        }
    }
}
