/** Promises 26 to 30: kinds, images, counts, the trace. */
public final class KindsTest {
    private static final Check c = new Check("KindsTest");

    public static void main(String[] args) {
        marks();
        refusedMarks();
        images();
        counts();
        c.close();
    }

    private static void marks() {
        SpadeRings x = Check.gang("digger 5 4;digger 2 9;spade 1;spade 2;spade 3;");
        x.throwWith(0, 0);
        x.ends();
        x.throwWith(0, 1);
        x.ends();
        x.ends();
        x.breaks(0);
        x.breaks(2);
        int[][] due = {{5, 2}, {7, 2}, {8, 5}, {14, 4}, {6, 3}, {1, -7}};
        long[] bodies = {1, 11, 101, 1011, 10101, 100001};
        long trace = 0;
        for (int d = 0; d < 2; d++) {
            for (int kind = 0; kind <= 5; kind++) {
                c.due("mark " + kind + " " + d, x.mark(kind, d), due[kind][d]);
                trace += bodies[kind];
                c.due("trace behind " + kind, x.trace(), trace);
            }
        }
        x.anew();
        c.due("of the round", x.mark(2, 0), 5);
        Check.write(x, "digger 1 1;spade1;spade1;");
        x.gang();
        c.due("the trace stays", x.trace(), trace + 101);
        x.breaks(0);
        x.breaks(1);
        c.due("below 0", x.mark(4, 0), -1);
        c.due("another object has its own", new SpadeRings().trace(), 0);
    }

    private static void refusedMarks() {
        SpadeRings x = Check.gang("digger 5 4;");
        int[][] bad = {{-1, 0}, {6, 0}, {0, -1}, {0, 1}, {Integer.MAX_VALUE, 0}, {3, Integer.MIN_VALUE}};
        for (int[] b : bad) {
            c.due("mark NO", x.mark(b[0], b[1]), SpadeRings.NO);
        }
        c.due("no trace of it", x.trace(), 0);
    }

    private static void images() {
        SpadeRings x = Check.gang("digger 5 4;digger 2 9;spade 1;spade 2;spade 3;yard 3 1;yard 7 1;yard 9 1;");
        c.due("keep BAD", x.keep(-1), SpadeRings.BAD);
        c.due("keep BAD", x.keep(2), SpadeRings.BAD);
        c.due("back BAD", x.back(-1), SpadeRings.BAD);
        c.due("back BAD", x.back(2), SpadeRings.BAD);
        c.due("none was kept", x.back(0), SpadeRings.STATE);
        x.throwWith(0, 2);
        x.ends();
        x.throwWith(1, 1);
        x.breaks(0);
        c.due("keep", x.keep(1), 1);
        c.due("the other one was not kept", x.back(0), SpadeRings.STATE);
        int[] kept = state(x);
        x.throwWith(0, 1);
        x.ends();
        x.breaks(1);
        x.throwWith(0, 2);
        x.throwWith(1, 2);
        x.tell(0, 0, 0);
        x.hole(0, 1, 1);
        x.mark(0, 0);
        Check.write(x, "yard");
        c.due("keep", x.keep(0), 2);
        int[] later = state(x);
        c.due("back", x.back(1), 1);
        same("image 1", state(x), kept);
        c.due("told is not in it", x.count(4), 1);
        c.due("holes are not in it", x.count(3), 1);
        c.due("the text is not in it", x.count(5), 4);
        c.due("the trace is not in it", x.trace(), 1);
        x.ends();
        c.due("back once more", x.back(1), 1);
        same("image 1 once more", state(x), kept);
        c.due("back", x.back(0), 2);
        same("image 0", state(x), later);
        x.anew();
        c.due("kept over", x.keep(1), 0);
        x.ends();
        c.due("back", x.back(1), 0);
        same("image 1 kept over", state(x), new int[state(x).length]);
    }

    private static int[] state(SpadeRings x) {
        return new int[] {x.now(0), x.now(1), x.now(2), x.now(3), x.now(4), x.now(5), x.digger(0, 3), x.digger(1, 3),
            x.spade(0, 2), x.spade(1, 2), x.spade(2, 2), x.yard(0, 2), x.yard(1, 2), x.yard(2, 2)};
    }

    private static void same(String what, int[] got, int[] want) {
        for (int i = 0; i < want.length; i++) {
            c.due(what + ", " + i, got[i], want[i]);
        }
    }

    private static void counts() {
        SpadeRings x = Check.gang("digger 5 4;digger 2 9;spade 1;spade 2;spade 3;yard 3 1;");
        x.hole(0, 1, 1);
        x.tell(0, 0, 0);
        x.tell(0, 0, 0);
        Check.write(x, "spade");
        int[] due = {2, 3, 1, 1, 2, 5};
        for (int what = 0; what < due.length; what++) {
            c.due("count " + what, x.count(what), due[what]);
        }
        c.due("BAD", x.count(-1), SpadeRings.BAD);
        c.due("BAD", x.count(6), SpadeRings.BAD);
    }
}
