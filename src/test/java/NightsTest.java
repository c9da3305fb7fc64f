/** Promises 20 to 25: holes, and what is told of throws. */
public final class NightsTest {
    private static final Check c = new Check("NightsTest");

    public static void main(String[] args) {
        holes();
        nights();
        tells();
        cheats();
        c.close();
    }

    private static void holes() {
        SpadeRings x = new SpadeRings();
        int[][] bad = {{-1, 1, 5}, {100, 1, 150}, {5, 0, 9}, {5, 100, 9}, {5, 1, 4}, {5, 1, 201}};
        for (int[] b : bad) {
            c.due("hole BAD", x.hole(b[0], b[1], b[2]), SpadeRings.BAD);
        }
        c.due("none came", x.count(3), 0);
        c.due("hole", x.hole(0, 1, 200), 1);
        c.due("hole", x.hole(99, 99, 99), 2);
        for (int i = 3; i <= 8; i++) {
            c.due("hole", x.hole(0, 1, 200), i);
        }
        c.due("FULL", x.hole(0, 1, 200), SpadeRings.FULL);
        c.due("BAD ahead of FULL", x.hole(0, 0, 200), SpadeRings.BAD);
        c.due("8", x.count(3), 8);
        c.due("dry", x.dry(), 8);
        c.due("dry", x.dry(), 0);
        c.due("again", x.hole(0, 1, 200), 1);
    }

    private static void nights() {
        SpadeRings x = new SpadeRings();
        c.due("BAD", x.night(0), SpadeRings.BAD);
        c.due("BAD", x.night(100), SpadeRings.BAD);
        c.due("no holes", x.night(1), 1);
        c.due("no holes", x.least(), 1);
        x.hole(10, 7, 12);
        c.due("3 a beat", x.night(3), 0);
        c.due("4 a beat", x.night(4), 1);
        c.due("least", x.least(), 4);
        // Ends later, but has to wait.
        x.hole(10, 3, 13);
        c.due("10 in 3 beats", x.least(), 4);
        x.hole(10, 3, 13);
        c.due("13 in 3 beats", x.least(), 5);
        x.dry();
        x.hole(0, 99, 1);
        c.due("99 in a beat", x.least(), 99);
        c.due("98 are too few", x.night(98), 0);
        c.due("99 are enough", x.night(99), 1);
        x.hole(0, 1, 1);
        c.due("not by 99", x.least(), SpadeRings.NONE);
        c.due("not by 99", x.night(99), 0);
        x.dry();
        x.hole(5, 1, 5);
        c.due("no beat at all", x.least(), SpadeRings.NONE);
        x.dry();
        x.hole(0, 10, 5);
        x.hole(2, 4, 4);
        c.due("what a beat leaves goes to the next hole", x.least(), 3);
        c.due("not in the holes' own order", x.night(2), 0);
    }

    private static void tells() {
        SpadeRings x = Check.gang("digger1 1;digger1 1left;spade1;spade1right;");
        int[][] bad = {{-1, 0, 0}, {100, 0, 0}, {0, -1, 0}, {0, 2, 0}, {0, 0, -1}, {0, 0, 2}};
        for (int[] b : bad) {
            c.due("tell BAD", x.tell(b[0], b[1], b[2]), SpadeRings.BAD);
        }
        c.due("none came", x.count(4), 0);
        c.due("what may not be can be told", x.tell(0, 1, 1), 1);
        for (int i = 2; i <= 30; i++) {
            c.due("tell", x.tell(i, 0, 0), i);
        }
        c.due("FULL", x.tell(99, 0, 0), SpadeRings.FULL);
        c.due("BAD ahead of FULL", x.tell(100, 0, 0), SpadeRings.BAD);
        c.due("30", x.count(4), 30);
        x.ends();
        x.anew();
        c.due("it stays", x.count(4), 30);
    }

    private static void cheats() {
        SpadeRings x = Check.gang("digger1 1;digger1 1;digger1 1;spade1;spade1;spade1;");
        c.due("BAD", x.cheats(-1), SpadeRings.BAD);
        c.due("BAD", x.cheats(2), SpadeRings.BAD);
        told(x, 0, 0);
        x.tell(0, 0, 0);
        x.tell(0, 1, 1);
        x.tell(1, 0, 1);
        told(x, 0, 0);
        x.tell(1, 0, 1);
        told(x, 1, 0);
        x.tell(99, 1, 1);
        told(x, 3, 0);
        x.tell(99, 2, 1);
        told(x, 3, 1);
        x.tell(99, 2, 0);
        told(x, 3, 1);
        x.tell(0, 0, 2);
        told(x, 3, 2);
        x.tell(2, 2, 1);
        told(x, 7, 2);
        falseByOne();
    }

    /** Each of these rounds is false by the people alone, or by the spades alone. */
    private static void falseByOne() {
        SpadeRings x = Check.gang("digger1 1;digger1 1;digger1 1;spade1;spade1;spade1;");
        for (int d = 0; d < 3; d++) {
            x.tell(10 + d, d, 0);
            told(x, 0, d);
            x.tell(10 + d, d, 2);
            told(x, 0, d + 1);
        }
        SpadeRings y = Check.gang("digger1 1;digger1 1;digger1 1;spade1;spade1;spade1;");
        for (int s = 0; s < 3; s++) {
            y.tell(20 + s, 1, s);
            told(y, 0, s);
            y.tell(20 + s, 2, s);
            told(y, 0, s + 1);
        }
        y.tell(30, 0, 1);
        y.tell(30, 1, 0);
        told(y, 2, 3);
    }

    private static void told(SpadeRings x, int cheats, int falseRounds) {
        c.due("cheats", x.cheats(0), cheats);
        c.due("false", x.cheats(1), falseRounds);
    }
}
