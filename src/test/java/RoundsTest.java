/** Promises 8 to 13: may, throws, rounds, breaks. */
public final class RoundsTest {
    private static final Check c = new Check("RoundsTest");

    public static void main(String[] args) {
        mayByHand();
        throwsOnce();
        earth();
        withoutYards();
        endsOfRounds();
        breaking();
        telling();
        anew();
        c.close();
    }

    private static void mayByHand() {
        SpadeRings x = Check.gang("digger 5 4;digger 3 2 left;spade 9;spade 8 right;spade 7 left;");
        int[][] due = {{1, 1, 0}, {1, 0, 1}};
        for (int d = 0; d < 2; d++) {
            for (int s = 0; s < 3; s++) {
                c.due("may " + d + " " + s, x.may(d, s), due[d][s]);
            }
        }
        int[][] bad = {{-1, 0}, {2, 0}, {0, -1}, {0, 3}, {Integer.MAX_VALUE, Integer.MIN_VALUE}};
        for (int[] one : bad) {
            c.due("may BAD", x.may(one[0], one[1]), SpadeRings.BAD);
            c.due("throwWith BAD", x.throwWith(one[0], one[1]), SpadeRings.BAD);
        }
    }

    private static void throwsOnce() {
        SpadeRings x = Check.gang("digger 5 4;digger 3 2 left;spade 9;spade 8 right;spade 7 left;");
        c.due("wrong hand", x.throwWith(1, 1), SpadeRings.STATE);
        c.due("throw", x.throwWith(0, 0), 45);
        c.due("may no more", x.may(0, 0), 0);
        c.due("may another one, in a later round", x.may(0, 1), 1);
        c.due("twice in a round", x.throwWith(0, 1), SpadeRings.STATE);
        c.due("the spade was thrown with", x.throwWith(1, 0), SpadeRings.STATE);
        c.due("it may all the same", x.may(1, 0), 1);
        c.due("who threw", x.now(4), 1);
        c.due("with which", x.now(5), 1);
        c.due("the other one", x.throwWith(1, 2), 21);
        c.due("who threw", x.now(4), 3);
        c.due("with which", x.now(5), 5);
        x.ends();
        c.due("who threw", x.now(4), 0);
        c.due("with which", x.now(5), 0);
        c.due("never twice with one", x.throwWith(0, 0), SpadeRings.STATE);
        c.due("the next one", x.throwWith(0, 1), 40);
        c.due("bits", x.digger(0, 3), 3);
        c.due("bits", x.digger(1, 3), 4);
    }

    private static void earth() {
        SpadeRings x = Check.gang("digger 5 4;digger 1 2;spade 9;spade 8;spade 1;yard 10 4;yard 3 9;yard 99 2;");
        c.due("45 by 4", x.throwWith(0, 0), 11);
        c.due("out: no more than deep", x.yard(0, 2), 10);
        c.due("what is beyond is lost", x.yard(1, 2), 0);
        c.due("all earth", x.now(2), 10);
        c.due("the next yard", x.now(3), 1);
        c.due("8 by 9: 1 at least", x.throwWith(1, 1), 1);
        c.due("out", x.yard(1, 2), 1);
        c.due("all earth", x.now(2), 11);
        x.ends();
        c.due("40 by 9", x.throwWith(0, 1), 4);
        c.due("out", x.yard(1, 2), 3);
        c.due("all earth", x.now(2), 13);
        c.due("the third one", x.now(3), 2);
        c.due("9 by 2", x.throwWith(1, 0), 4);
        c.due("out", x.yard(2, 2), 4);
        c.due("dug still", x.now(3), 2);
        SpadeRings y = Check.gang("digger 9 9;digger 9 9;spade 9;spade 9;yard 81 1;");
        c.due("just out", y.throwWith(0, 0), 81);
        c.due("behind all", y.now(3), 1);
        c.due("by 1", y.throwWith(1, 1), 81);
        c.due("nothing comes to it", y.now(2), 81);
        c.due("behind all still", y.now(3), 1);
    }

    private static void withoutYards() {
        SpadeRings x = Check.gang("digger 3 1;spade 4;");
        c.due("by 1", x.throwWith(0, 0), 12);
        c.due("all earth", x.now(2), 0);
        c.due("yard", x.now(3), 0);
    }

    private static void endsOfRounds() {
        SpadeRings x = Check.gang("digger 5 4;digger 3 9;digger 1 2;spade 1;spade 2;spade 3;");
        c.due("nobody threw", x.ends(), 0);
        c.due("round", x.now(0), 1);
        c.due("beats", x.now(1), 0);
        x.throwWith(0, 0);
        x.throwWith(2, 1);
        c.due("the slowest", x.ends(), 4);
        x.throwWith(1, 0);
        c.due("the slowest", x.ends(), 9);
        c.due("round", x.now(0), 3);
        c.due("beats", x.now(1), 13);
        c.due("all of that is over", x.ends(), 0);
        c.due("beats", x.now(1), 13);
    }

    private static void breaking() {
        SpadeRings x = Check.gang("digger 5 4;digger 3 9;spade 1;spade 2;");
        c.due("BAD", x.breaks(-1), SpadeRings.BAD);
        c.due("BAD", x.breaks(2), SpadeRings.BAD);
        c.due("breaks", x.breaks(1), 1);
        c.due("is broken", x.breaks(1), 0);
        c.due("broken", x.spade(1, 2), 1);
        c.due("whole", x.spade(0, 2), 0);
        c.due("may not", x.may(0, 1), 0);
        c.due("nobody may", x.may(1, 1), 0);
        c.due("throw", x.throwWith(0, 1), SpadeRings.STATE);
        c.due("nothing changed", x.now(4), 0);
        x.ends();
        c.due("a round doesn't mend it", x.spade(1, 2), 1);
    }

    private static void telling() {
        SpadeRings x = Check.gang("digger 5 4;spade 1;");
        c.due("BAD", x.now(-1), SpadeRings.BAD);
        c.due("BAD", x.now(6), SpadeRings.BAD);
        c.due("BAD", x.now(Integer.MIN_VALUE), SpadeRings.BAD);
    }

    private static void anew() {
        SpadeRings x = Check.gang("digger 5 4;spade 1;spade 2;yard 50 1;");
        x.throwWith(0, 0);
        x.ends();
        x.ends();
        x.throwWith(0, 1);
        x.breaks(1);
        x.tell(0, 0, 0);
        x.keep(1);
        x.hole(0, 1, 1);
        c.due("the round it was", x.anew(), 2);
        for (int what = 0; what <= 5; what++) {
            c.due("now " + what, x.now(what), 0);
        }
        c.due("threw with none", x.digger(0, 3), 0);
        c.due("whole", x.spade(1, 2), 0);
        c.due("out", x.yard(0, 2), 0);
        c.due("told stays", x.count(4), 1);
        c.due("holes stay", x.count(3), 1);
        c.due("the gang stays", x.count(0), 1);
        c.due("images stay", x.back(1), 2);
        c.due("and have it all", x.spade(1, 2), 1);
        c.due("once more", x.anew(), 2);
        c.due("and again", x.anew(), 0);
    }
}
