/** Passage 2, promises 8 to 13: each sentence that names a boundary has a test of its own. */
public final class EdgesRoundsTest {
    private static final Check c = new Check("EdgesRoundsTest");

    public static void main(String[] args) {
        atFirst();
        hands();
        notBroken();
        neverTwice();
        everyThrowThereIs();
        thisRoundAlone();
        mayIsNotOfThisRound();
        noSuchOne();
        badAheadOfState();
        earthCut();
        earthWithoutYards();
        earthBehindAll();
        clodsOut();
        lostBeyond();
        eightYards();
        allEarth();
        beatsOfTheSlowest();
        nobodyThrew();
        breaks();
        brokenTillAnew();
        now();
        anew();
        fiveHundredAndTwelveCalls();
        c.close();
    }

    private static void nows(SpadeRings x, int... want) {
        for (int what = 0; what < want.length; what++) {
            c.due("now " + what, x.now(what), want[what]);
        }
    }

    // ---- who may

    private static void atFirst() {
        c.says("ROUND 0, BEATS 0 at first.");
        nows(new SpadeRings(), 0, 0, 0, 0, 0, 0);
        nows(Check.gang(Check.fullGang()), 0, 0, 0, 0, 0, 0);
    }

    private static void hands() {
        c.says("A digger MAY throw with a SPADE that is for any HAND or for its own");
        int[][] may = {{1, 1, 0}, {1, 0, 1}};
        for (int d = 0; d < 2; d++) {
            for (int s = 0; s < 3; s++) {
                SpadeRings x = Check.gang("digger 3 1;digger 2 1left;spade 5;spade 5 right;spade 5 left;");
                c.due("may " + d + " " + s, x.may(d, s), may[d][s]);
                int earth = d == 0 ? 15 : 10;
                c.due("throw " + d + " " + s, x.throwWith(d, s), may[d][s] == 1 ? earth : SpadeRings.STATE);
                c.due("threw with", x.digger(d, 3), may[d][s] << s);
            }
        }
    }

    private static void notBroken() {
        c.says("is not BROKEN");
        for (int broken = 0; broken < 8; broken++) {
            SpadeRings x = Check.gang(Check.fullGang());
            x.breaks(broken);
            for (int d = 0; d < 6; d++) {
                for (int s = 0; s < 8; s++) {
                    c.due("may " + d + " " + s, x.may(d, s), s == broken ? 0 : 1);
                }
                c.due("throw", x.throwWith(d, broken), SpadeRings.STATE);
            }
            nows(x, 0, 0, 0, 0, 0, 0);
        }
    }

    private static void neverTwice() {
        c.says("and with which it never threw");
        SpadeRings x = Check.gang("digger 1 1;digger 1 1;spade 1;spade 1;");
        c.due("throw", x.throwWith(0, 1), 1);
        for (int round = 0; round < 9; round++) {
            c.due("no more", x.may(0, 1), 0);
            c.due("no more", x.throwWith(0, 1), SpadeRings.STATE);
            c.due("another spade", x.may(0, 0), 1);
            c.due("another digger", x.may(1, 1), 1);
            x.ends();
        }
        c.due("another digger throws with it", x.throwWith(1, 1), 1);
        c.due("another spade", x.throwWith(0, 0), 1);
    }

    /** Six diggers and eight spades: 48 throws in eight rounds, and then none any more. */
    private static void everyThrowThereIs() {
        c.says("nobody throws twice with one spade: all throws there are");
        SpadeRings x = Check.gang(Check.fullGang());
        for (int round = 0; round < 8; round++) {
            for (int d = 0; d < 6; d++) {
                c.due("throw", x.throwWith(d, (d + round) % 8), 1);
            }
            c.due("all threw", x.now(4), 63);
            x.ends();
        }
        for (int d = 0; d < 6; d++) {
            c.due("threw with all", x.digger(d, 3), 255);
            for (int s = 0; s < 8; s++) {
                c.due("may", x.may(d, s), 0);
                c.due("throw", x.throwWith(d, s), SpadeRings.STATE);
            }
        }
        c.due("longest", x.longest(), 0);
        c.due("most", x.most(6), 0);
    }

    private static void thisRoundAlone() {
        c.says("it did not throw in this ROUND, nor was the SPADE thrown with in it");
        for (int d = 0; d < 6; d++) {
            for (int s = 0; s < 8; s++) {
                SpadeRings x = Check.gang(Check.fullGang());
                c.due("throw", x.throwWith(d, s), 1);
                nows(x, 0, 0, 1, 1, 1 << d, 1 << s);
                int otherDigger = (d + 1) % 6;
                int otherSpade = (s + 1) % 8;
                c.due("the digger again", x.throwWith(d, otherSpade), SpadeRings.STATE);
                c.due("the spade again", x.throwWith(otherDigger, s), SpadeRings.STATE);
                nows(x, 0, 0, 1, 1, 1 << d, 1 << s);
                x.ends();
                c.due("the digger, a round on", x.throwWith(d, otherSpade), 1);
                c.due("the spade, a round on", x.throwWith(otherDigger, s), 1);
            }
        }
    }

    private static void mayIsNotOfThisRound() {
        c.says("Whether a digger MAY throw with a SPADE: 1, 0.");
        SpadeRings x = Check.gang("digger 1 1;digger 1 1;spade 1;spade 1;");
        x.throwWith(0, 0);
        c.due("the digger that threw", x.may(0, 1), 1);
        c.due("the spade that was thrown with", x.may(1, 0), 1);
        c.due("both of it", x.may(0, 0), 0);
    }

    private static void noSuchOne() {
        c.says("may: BAD. throwWith: BAD. (there is no such thing)");
        SpadeRings full = Check.gang(Check.fullGang());
        int[][] bad = {{-1, 0}, {6, 0}, {0, -1}, {0, 8}, {-1, -1}, {6, 8}, {32, 0}, {0, 32},
            {Integer.MIN_VALUE, 0}, {Integer.MAX_VALUE, 0}, {0, Integer.MIN_VALUE}, {0, Integer.MAX_VALUE}};
        for (int[] b : bad) {
            c.due("may " + b[0] + " " + b[1], full.may(b[0], b[1]), SpadeRings.BAD);
            c.due("throwWith " + b[0] + " " + b[1], full.throwWith(b[0], b[1]), SpadeRings.BAD);
        }
        c.due("the last ones", full.may(5, 7), 1);
        nows(full, 0, 0, 0, 0, 0, 0);
        SpadeRings small = Check.gang("digger 1 1;spade 1;spade 1;");
        c.due("one more digger", small.may(1, 0), SpadeRings.BAD);
        c.due("one more spade", small.may(0, 2), SpadeRings.BAD);
        c.due("one more digger", small.throwWith(1, 0), SpadeRings.BAD);
        c.due("one more spade", small.throwWith(0, 2), SpadeRings.BAD);
        SpadeRings noSpades = Check.gang("digger 1 1;");
        c.due("no spades", noSpades.may(0, 0), SpadeRings.BAD);
        c.due("no spades", noSpades.throwWith(0, 0), SpadeRings.BAD);
        SpadeRings noDiggers = Check.gang("spade 1;");
        c.due("no diggers", noDiggers.may(0, 0), SpadeRings.BAD);
        c.due("no diggers", noDiggers.throwWith(0, 0), SpadeRings.BAD);
    }

    private static void badAheadOfState() {
        c.says("Refused the first of these: BAD, STATE");
        SpadeRings x = Check.gang("digger 1 1;spade 1;spade 1;");
        x.throwWith(0, 0);
        x.breaks(1);
        c.due("threw, no such spade", x.throwWith(0, 2), SpadeRings.BAD);
        c.due("threw, no such spade", x.throwWith(0, -1), SpadeRings.BAD);
        c.due("no such digger, thrown with", x.throwWith(1, 0), SpadeRings.BAD);
        c.due("no such digger, broken", x.throwWith(-1, 1), SpadeRings.BAD);
        c.due("threw, broken", x.throwWith(0, 1), SpadeRings.STATE);
    }

    // ---- earth

    private static void earthCut() {
        c.says("EARTH of it: STRENGTH times SHARP by SOIL of the YARD that is dug (cut; 1 at least)");
        for (int strength = 1; strength <= 9; strength++) {
            for (int sharp = 1; sharp <= 9; sharp++) {
                for (int soil = 1; soil <= 9; soil++) {
                    SpadeRings x = Check.gang("digger " + strength + " 1;spade " + sharp + ";yard 99 " + soil + ";");
                    int whole = 0;
                    while ((whole + 1) * soil <= strength * sharp) {
                        whole++;
                    }
                    int want = whole == 0 ? 1 : whole;
                    c.due(strength + " times " + sharp + " by " + soil, x.throwWith(0, 0), want);
                    c.due("out", x.yard(0, 2), want);
                    c.due("all earth", x.now(2), want);
                }
            }
        }
    }

    private static void earthWithoutYards() {
        c.says("without YARDS by 1");
        SpadeRings x = Check.gang("digger 9 1;digger 1 1;spade 9;spade 1;");
        c.due("the most", x.throwWith(0, 0), 81);
        c.due("the least", x.throwWith(1, 1), 1);
        nows(x, 0, 0, 0, 0, 3, 3);
    }

    private static void earthBehindAll() {
        c.says("or behind all, by 1; behind all YARDS nothing comes to it");
        SpadeRings x = Check.gang("digger 9 1;digger 7 1;spade 9;spade 5;yard 9 9;");
        c.due("in the yard", x.throwWith(0, 0), 9);
        nows(x, 0, 0, 9, 1, 1, 1);
        c.due("behind all", x.throwWith(1, 1), 35);
        nows(x, 0, 0, 9, 1, 3, 3);
        c.due("out", x.yard(0, 2), 9);
    }

    private static void clodsOut() {
        c.says("The first YARD is dug till its clods (DEEP) are out, then the next one");
        // 20 clods by the first throw: one fewer than deep, as deep, one more.
        for (int deep = 19; deep <= 21; deep++) {
            SpadeRings x = Check.gang("digger 5 1;digger 1 1;spade 4;spade 1;yard " + deep + " 1;yard 50 1;");
            c.due("throw", x.throwWith(0, 0), 20);
            c.due("out, deep " + deep, x.yard(0, 2), Math.min(deep, 20));
            c.due("dug, deep " + deep, x.now(3), deep == 21 ? 0 : 1);
            c.due("next throw", x.throwWith(1, 1), 1);
            c.due("out, deep " + deep, x.yard(0, 2), deep == 21 ? 21 : Math.min(deep, 20));
            c.due("next yard, deep " + deep, x.yard(1, 2), deep == 21 ? 0 : 1);
            c.due("dug, deep " + deep, x.now(3), 1);
        }
    }

    private static void lostBeyond() {
        c.says("what one throw has beyond that is lost");
        SpadeRings x = Check.gang("digger 9 1;spade 9;yard 1 1;yard 99 1;");
        c.due("its earth is told whole", x.throwWith(0, 0), 81);
        c.due("out", x.yard(0, 2), 1);
        c.due("none of it in the next yard", x.yard(1, 2), 0);
        c.due("all earth", x.now(2), 1);
        c.due("dug", x.now(3), 1);
    }

    private static void eightYards() {
        c.says("the YARD that is dug (how many, behind all)");
        for (int n = 0; n <= 8; n++) {
            SpadeRings x = Check.gang("digger 9 1;" + "spade 1;".repeat(8) + "yard 1 9;".repeat(n));
            for (int round = 0; round < 8; round++) {
                c.due("dug", x.now(3), Math.min(round, n));
                c.due("by 9, then by 1", x.throwWith(0, round), round < n ? 1 : 9);
                x.ends();
            }
            c.due("dug, of " + n, x.now(3), n);
            c.due("all earth, of " + n, x.now(2), n);
            for (int y = 0; y < n; y++) {
                c.due("out", x.yard(y, 2), 1);
            }
        }
    }

    private static void allEarth() {
        c.says("ALL EARTH: clods that are out");
        SpadeRings x = Check.gang("digger 9 1;digger 9 1;digger 9 1;spade 9;spade 9;spade 9;yard 99 1;yard 99 9;");
        x.throwWith(0, 0);
        c.due("81", x.now(2), 81);
        x.throwWith(1, 1);
        c.due("18 more", x.now(2), 99);
        x.throwWith(2, 2);
        c.due("9 more", x.now(2), 108);
        c.due("out", x.yard(0, 2), 99);
        c.due("out", x.yard(1, 2), 9);
    }

    // ---- rounds

    private static void beatsOfTheSlowest() {
        c.says("BEATS are more by the greatest PACE of those who threw in it");
        String gang = "digger 1 3;digger 1 9;digger 1 1;digger 1 5;digger 1 2;digger 1 4;" + "spade 1;".repeat(6);
        int[] pace = {3, 9, 1, 5, 2, 4};
        for (int who = 1; who < 64; who++) {
            SpadeRings x = Check.gang(gang);
            int slowest = 0;
            for (int d = 0; d < 6; d++) {
                if ((who >> d & 1) != 0) {
                    x.throwWith(d, d);
                    slowest = Math.max(slowest, pace[d]);
                }
            }
            c.due("who threw", x.now(4), who);
            c.due("ends, " + who, x.ends(), slowest);
            nows(x, 1, slowest, 0, 0, 0, 0);
            c.due("nobody in the next one", x.ends(), 0);
            nows(x, 2, slowest, 0, 0, 0, 0);
        }
    }

    private static void nobodyThrew() {
        c.says("A ROUND ends (0: nobody)");
        SpadeRings none = new SpadeRings();
        c.due("without diggers", none.ends(), 0);
        nows(none, 1, 0, 0, 0, 0, 0);
        SpadeRings x = Check.gang("digger 9 9;spade 9;");
        c.due("nobody threw", x.ends(), 0);
        nows(x, 1, 0, 0, 0, 0, 0);
        x.throwWith(0, 0);
        c.due("one threw", x.ends(), 9);
        nows(x, 2, 9, 0, 0, 0, 0);
        x.throwWith(0, 0);
        c.due("a throw that was refused is none", x.ends(), 0);
        nows(x, 3, 9, 0, 0, 0, 0);
    }

    // ---- broken spades

    private static void breaks() {
        c.says("A SPADE BREAKS: 1; it is BROKEN: 0. BAD.");
        SpadeRings x = Check.gang(Check.fullGang());
        for (int s = 0; s < 8; s++) {
            c.due("breaks " + s, x.breaks(s), 1);
            c.due("again " + s, x.breaks(s), 0);
            c.due("and again " + s, x.breaks(s), 0);
            for (int other = 0; other < 8; other++) {
                c.due("broken " + other, x.spade(other, 2), other <= s ? 1 : 0);
            }
        }
        for (int s : new int[] {-1, 8, 9, 32, Integer.MIN_VALUE, Integer.MAX_VALUE}) {
            c.due("breaks " + s, x.breaks(s), SpadeRings.BAD);
        }
        SpadeRings small = Check.gang("spade 1;spade 1;");
        c.due("the last one", small.breaks(1), 1);
        c.due("one more", small.breaks(2), SpadeRings.BAD);
        c.due("none there", new SpadeRings().breaks(0), SpadeRings.BAD);
    }

    private static void brokenTillAnew() {
        c.says("a SPADE is BROKEN (till anew())");
        SpadeRings x = Check.gang("digger 1 7;digger 1 1;spade 1;spade 1;");
        x.throwWith(0, 0);
        c.due("it breaks in the throw's round", x.breaks(0), 1);
        nows(x, 0, 0, 0, 0, 1, 1);
        c.due("the beats come all the same", x.ends(), 7);
        c.due("broken still", x.spade(0, 2), 1);
        c.due("may not", x.may(1, 0), 0);
        x.anew();
        c.due("whole", x.spade(0, 2), 0);
        c.due("may", x.may(1, 0), 1);
        c.due("it can break again", x.breaks(0), 1);
    }

    // ---- now, anew

    private static void now() {
        c.says("0 ROUND, 1 BEATS, 2 ALL EARTH, 3 the YARD that is dug, 4 who threw in this ROUND, 5 with which SPADES. BAD.");
        SpadeRings x = Check.gang("digger 2 3;digger 2 5;spade 1;spade 1;spade 2;yard 1 1;yard 9 1;");
        x.throwWith(0, 0);
        x.ends();
        x.throwWith(1, 2);
        nows(x, 1, 3, 5, 1, 2, 4);
        for (int what : new int[] {-1, 6, 7, Integer.MIN_VALUE, Integer.MAX_VALUE}) {
            c.due("now " + what, x.now(what), SpadeRings.BAD);
            c.due("now " + what, new SpadeRings().now(what), SpadeRings.BAD);
        }
    }

    private static void anew() {
        c.says("NOW is as at first, no SPADE is BROKEN: the ROUND it was.");
        c.due("a new object", new SpadeRings().anew(), 0);
        SpadeRings x = Check.gang(Check.fullGang());
        for (int round = 0; round < 3; round++) {
            for (int d = 0; d < 6; d++) {
                x.throwWith(d, d + (round & 1));
            }
            x.ends();
        }
        x.throwWith(5, 7);
        for (int s = 0; s < 8; s++) {
            x.breaks(s);
        }
        c.due("anew", x.anew(), 3);
        nows(x, 0, 0, 0, 0, 0, 0);
        for (int i = 0; i < 8; i++) {
            c.due("whole", x.spade(i, 2), 0);
            c.due("out", x.yard(i, 2), 0);
            c.due("threw with", x.digger(i, 3), i < 6 ? 0 : SpadeRings.BAD);
        }
        for (int d = 0; d < 6; d++) {
            c.due("throws again", x.throwWith(d, d), 1);
        }
        c.due("anew", x.anew(), 0);
        c.due("anew", x.anew(), 0);
        for (int what = 0; what <= 2; what++) {
            c.due("the gang stays", x.count(what), what == 0 ? 6 : 8);
        }
    }

    private static void fiveHundredAndTwelveCalls() {
        c.says("An object is used for at most 512 calls");
        SpadeRings x = new SpadeRings();
        for (int call = 0; call < 511; call++) {
            c.due("ends", x.ends(), 0);
        }
        c.due("the last call", x.now(0), 511);
        SpadeRings y = Check.gang("digger1 1;");
        for (int call = 0; call < 508; call++) {
            c.due("mark", y.mark(4, 0), 1);
        }
        c.due("the last call", y.trace(), 508L * 10101);
    }
}
