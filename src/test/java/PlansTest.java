/** Promises 14 to 19: what can be. */
public final class PlansTest {
    private static final Check c = new Check("PlansTest");

    public static void main(String[] args) {
        longest();
        begins();
        most();
        rings();
        meeting();
        songs();
        c.close();
    }

    private static void longest() {
        c.due("no diggers", Check.gang("spade 1;").longest(), 0);
        c.due("no spades", Check.gang("digger 1 1;").longest(), 0);
        c.due("one and all", Check.gang("digger 1 1;" + "spade 1;".repeat(8)).longest(), 8);
        c.due("six to eight", Check.gang("digger1 1;".repeat(6) + "spade1;".repeat(8)).longest(), 8);
        c.due("six to six", Check.gang("digger1 1;".repeat(6) + "spade1;".repeat(6)).longest(), 6);
        c.due("six to five", Check.gang("digger1 1;".repeat(6) + "spade1;".repeat(5)).longest(), 0);
        c.due("two lefts, one spade for them", Check.gang("digger1 1left;digger1 1left;spade1left;spade1right;").longest(), 0);
        c.due("a left with two", Check.gang("digger1 1left;digger1 1;spade1;spade1left;spade1right;").longest(), 2);
        SpadeRings x = Check.gang("digger1 1;digger1 1;spade1;spade1;spade1;");
        c.due("three", x.longest(), 3);
        x.throwWith(0, 0);
        c.due("in this round already", x.longest(), 2);
        x.breaks(2);
        c.due("one is left for digger 0", x.longest(), 1);
        x.breaks(1);
        c.due("none is left for digger 0", x.longest(), 0);
        x.anew();
        c.due("anew", x.longest(), 3);
    }

    private static void begins() {
        SpadeRings x = Check.gang("digger1 1;digger1 1;digger1 1;spade1;spade1;spade1;");
        c.due("BAD", x.begins(-1), SpadeRings.BAD);
        c.due("BAD", x.begins(3), SpadeRings.BAD);
        row(x, 0, 1, 2);
        x.throwWith(1, 1);
        x.ends();
        row(x, 0, 2, 1);
        // The first row that there is at all can be one behind which too few rounds follow.
        SpadeRings y = Check.gang("digger1 1;digger1 1left;spade1;spade1right;spade1left;");
        c.due("two rounds", y.longest(), 2);
        row(y, 0, 2);
        SpadeRings z = Check.gang("digger1 1;digger1 1left;spade1;spade1;spade1right;");
        c.due("two rounds", z.longest(), 2);
        row(z, 0, 1);
        z.throwWith(0, 2);
        z.ends();
        row(z, 0, 1);
        z.breaks(1);
        c.due("only one spade for two", z.longest(), 0);
        row(z, SpadeRings.NONE, SpadeRings.NONE);
        c.due("BAD ahead of NONE", z.begins(2), SpadeRings.BAD);
        c.due("no spades", Check.gang("digger1 1;").begins(0), SpadeRings.NONE);
    }

    private static void row(SpadeRings x, int... want) {
        for (int d = 0; d < want.length; d++) {
            c.due("begins " + d, x.begins(d), want[d]);
        }
    }

    private static void most() {
        SpadeRings x = Check.gang("digger 5 1;digger 3 1 left;spade 9;spade 2 right;spade 1 left;");
        c.due("BAD", x.most(0), SpadeRings.BAD);
        c.due("BAD", x.most(7), SpadeRings.BAD);
        c.due("BAD", x.most(-1), SpadeRings.BAD);
        c.due("1 round: 45 and 3", x.most(1), 48);
        c.due("2 rounds: 45, 10, 27, 3", x.most(2), 85);
        c.due("6 rounds add nothing", x.most(6), 85);
        x.throwWith(0, 0);
        c.due("one is thrown", x.most(1), 37);
        x.breaks(0);
        c.due("one is broken", x.most(6), 13);
        c.due("nobody", Check.gang("spade 1;").most(1), 0);
        c.due("six diggers, one spade, 2 rounds",
                Check.gang("digger1 1;digger2 1;digger3 1;digger4 1;digger5 1;digger6 1;spade9;").most(2), 99);
        c.due("one digger, eight spades, 2 rounds",
                Check.gang("digger9 1;spade1;spade2;spade3;spade4;spade5;spade6;spade7;spade8;").most(2), 135);
    }

    private static void rings() {
        SpadeRings x = Check.gang("digger 5 4;digger 3 2;digger 9 9;");
        int[][] bad = {{0, 1, 0}, {4, 1, 0}, {1, 0, 0}, {1, 1000, 0}, {1, 1, -1}, {1, 1, 4}};
        for (int[] one : bad) {
            c.due("rings BAD", x.rings(one[0], one[1], one[2]), SpadeRings.BAD);
        }
        ringsRow(x, 1, 10, 17, 7, 7, 7);
        ringsRow(x, 2, 10, 29, 5, 2, 5);
        ringsRow(x, 3, 10, 34, 1, 2, 4);
        // All are alike: the least bits.
        ringsRow(x, 3, 1, 0, 1, 2, 4);
        ringsRow(x, 2, 1, 0, 1, 6, 6);
        ringsRow(x, 1, 1, 0, 7, 7, 7);
        ringsRow(Check.gang("digger 5 4;"), 3, 999, 1245, 1);
        ringsRow(Check.gang("digger 5 4;digger 5 4;"), 3, 4, 10, 1, 2);
        ringsRow(Check.gang("digger 1 1;digger 1 1;digger 1 1;digger 1 1;"), 3, 1, 4, 1, 2, 12, 12);
        c.due("nobody", Check.gang("spade 1;").rings(3, 999, 0), 0);
        c.due("nobody's ring", Check.gang("spade 1;").rings(3, 999, 1), SpadeRings.BAD);
    }

    private static void ringsRow(SpadeRings x, int g, int t, int most, int... want) {
        c.due("rings " + g + " " + t, x.rings(g, t, 0), most);
        for (int d = 0; d < want.length; d++) {
            c.due("ring of " + d + ", " + g + " " + t, x.rings(g, t, 1 + d), want[d]);
        }
    }

    private static void meeting() {
        SpadeRings x = Check.gang("digger 9 1;spade 9;yard 5 2;yard 7 1;yard 3 3;");
        meetingRow(x, 1, 1, 1, 1, 13, 1, 13);
        meetingRow(x, 99, 1, 99, 1, 1, 2, 26);
        meetingRow(x, 99, 2, 99, 1, 1, 0, 0);
        meetingRow(x, 99, 99, 1, 99, 99, 2, 26);
        meetingRow(x, 1, 99, 99, 99, 99, 0, 1);
        meetingRow(x, 10, 1, 16, 1, 1, 1, 10);
        meetingRow(x, 17, 1, 9, 1, 1, 2, 17);
        // The one ends it in the yard behind which the other one has dug all.
        meetingRow(x, 17, 2, 9, 1, 2, 1, 17);
        x.throwWith(0, 0);
        meetingRow(x, 1, 1, 1, 1, 13, 1, 13);
        int[][] bad = {{0, 1, 1, 1, 0}, {100, 1, 1, 1, 0}, {1, 0, 1, 1, 0}, {1, 100, 1, 1, 0}, {1, 1, 0, 1, 0},
            {1, 1, 100, 1, 0}, {1, 1, 1, 0, 0}, {1, 1, 1, 100, 0}, {1, 1, 1, 1, -1}, {1, 1, 1, 1, 3}};
        SpadeRings none = Check.gang("digger 1 1;");
        for (int[] b : bad) {
            c.due("meeting BAD", x.meeting(b[0], b[1], b[2], b[3], b[4]), SpadeRings.BAD);
            c.due("BAD ahead of NONE", none.meeting(b[0], b[1], b[2], b[3], b[4]), SpadeRings.BAD);
        }
        for (int what = 0; what <= 2; what++) {
            c.due("no yards", none.meeting(1, 1, 1, 1, what), SpadeRings.NONE);
        }
    }

    private static void meetingRow(SpadeRings x, int a, int p, int b, int q, int... want) {
        for (int what = 0; what <= 2; what++) {
            String call = "meeting " + a + " " + p + " " + b + " " + q + " " + what;
            c.due(call, x.meeting(a, p, b, q, what), want[what]);
        }
    }

    private static void songs() {
        SpadeRings x = new SpadeRings();
        c.due("both at once", x.songs(3, 7, 5, 7), 7);
        c.due("later", x.songs(3, 1, 5, 2), 7);
        c.due("the later one's own beat", x.songs(1, 0, 99, 999), 999);
        c.due("the later one's own beat", x.songs(99, 999, 1, 0), 999);
        c.due("never", x.songs(2, 0, 4, 1), SpadeRings.NONE);
        c.due("the last chance", x.songs(99, 1, 98, 0), 9604);
        int[][] bad = {{0, 0, 1, 0}, {100, 0, 1, 0}, {1, -1, 1, 0}, {1, 1000, 1, 0}, {1, 0, 0, 0}, {1, 0, 100, 0},
            {1, 0, 1, -1}, {1, 0, 1, 1000}};
        for (int[] b : bad) {
            c.due("songs BAD", x.songs(b[0], b[1], b[2], b[3]), SpadeRings.BAD);
        }
    }
}
