/** Passage 4, promises 26 to 30: each sentence that names a boundary has a test of its own. */
public final class EdgesKindsTest {
    private static final Check c = new Check("EdgesKindsTest");
    private static final long[] BODIES = {1, 11, 101, 1011, 10101, 100001};

    public static void main(String[] args) {
        markRefused();
        markWhereNobodyIs();
        asAPerson();
        asADigger();
        asASinger();
        asALeft();
        asAProphet();
        asASlow();
        traceOfEachBody();
        traceOfAllCalls();
        imagesRefused();
        noneWasKept();
        badAheadOfState();
        anImageOfFirst();
        anImageHasAll();
        nothingElse();
        imagesAreTwo();
        imagesAreGone();
        readAnew();
        counts();
        c.close();
    }

    // ---- mark

    private static void markRefused() {
        c.says("MARK. NO: BAD. (0 PERSON .. 5 SLOW)");
        SpadeRings x = Check.gang(Check.fullGang());
        int[][] bad = {{-1, 0}, {6, 0}, {0, -1}, {0, 6}, {5, 6}, {6, 5}, {-1, -1}, {Integer.MIN_VALUE, 0},
            {Integer.MAX_VALUE, 0}, {0, Integer.MIN_VALUE}, {0, Integer.MAX_VALUE}};
        for (int[] b : bad) {
            c.due("mark " + b[0] + " " + b[1], x.mark(b[0], b[1]), SpadeRings.NO);
            c.due("trace", x.trace(), 0);
        }
        c.due("the first kind, the last digger", x.mark(0, 5), 1);
        c.due("the last kind, the last digger", x.mark(5, 5), 0);
        SpadeRings two = Check.gang("digger 1 1;digger 2 1;");
        c.due("the last one", two.mark(0, 1), 2);
        c.due("one more", two.mark(0, 2), SpadeRings.NO);
    }

    private static void markWhereNobodyIs() {
        c.says("NO: BAD, there is no such thing");
        SpadeRings x = Check.gang("spade 1;yard 1 1;");
        for (int kind = 0; kind <= 5; kind++) {
            c.due("mark " + kind, x.mark(kind, 0), SpadeRings.NO);
            c.due("mark " + kind, new SpadeRings().mark(kind, 0), SpadeRings.NO);
        }
        c.due("trace", x.trace(), 0);
    }

    private static void asAPerson() {
        c.says("PERSON its STRENGTH (1)");
        for (int strength = 1; strength <= 9; strength++) {
            c.due("mark", Check.gang("digger " + strength + " 9;").mark(0, 0), strength);
        }
    }

    private static void asADigger() {
        c.says("DIGGER up, and with how many SPADES it threw (10)");
        SpadeRings x = Check.gang("digger 4 1;digger 1 1;" + "spade 1;".repeat(8));
        for (int s = 0; s < 8; s++) {
            c.due("mark, " + s, x.mark(1, 0), 4 + s);
            x.throwWith(0, s);
            c.due("in the throw's round", x.mark(1, 0), 5 + s);
            c.due("the other one", x.mark(1, 1), 1);
            x.ends();
        }
        c.due("with all", x.mark(1, 0), 12);
        x.anew();
        c.due("anew", x.mark(1, 0), 4);
    }

    private static void asASinger() {
        c.says("SINGER up, and ROUND (100)");
        SpadeRings x = Check.gang("digger 9 1;");
        for (int round = 0; round < 120; round++) {
            c.due("mark, " + round, x.mark(2, 0), 9 + round);
            x.ends();
        }
        x.anew();
        c.due("anew", x.mark(2, 0), 9);
    }

    private static void asALeft() {
        c.says("LEFT up times 2 (1000)");
        SpadeRings x = Check.gang("digger 4 1;digger 9 1left;" + "spade 1;".repeat(8));
        for (int s = 0; s < 8; s++) {
            x.throwWith(1, s);
            x.ends();
        }
        c.due("a right one, too", x.mark(3, 0), 8);
        c.due("the most", x.mark(3, 1), 34);
    }

    private static void asAProphet() {
        c.says("PROPHET up less how many SPADES are BROKEN (10000)");
        SpadeRings x = Check.gang("digger 1 1;" + "spade 1;".repeat(8));
        for (int s = 0; s < 8; s++) {
            c.due("mark", x.mark(4, 0), 1 - s);
            x.breaks(s);
            x.breaks(s);
        }
        c.due("all are broken", x.mark(4, 0), -7);
        x.ends();
        c.due("a round on", x.mark(4, 0), -6);
        x.anew();
        c.due("anew", x.mark(4, 0), 1);
    }

    private static void asASlow() {
        c.says("SLOW up less PACE (100000)");
        for (int pace = 1; pace <= 9; pace++) {
            c.due("mark", Check.gang("digger 1 " + pace + ";").mark(5, 0), 1 - pace);
            c.due("mark", Check.gang("digger 9 " + pace + ";").mark(5, 0), 9 - pace);
        }
    }

    private static void traceOfEachBody() {
        c.says("numbers in brackets come to THE TRACE as often as mark() asks that body; up is asked once");
        for (int kind = 0; kind <= 5; kind++) {
            SpadeRings x = Check.gang("digger 1 1;digger 1 1left;");
            for (int times = 1; times <= 3; times++) {
                x.mark(kind, times % 2);
                c.due("trace of kind " + kind, x.trace(), times * BODIES[kind]);
            }
        }
    }

    private static void traceOfAllCalls() {
        c.says("THE TRACE (0 at first; of all calls ever, together); THE TRACE stays");
        SpadeRings x = new SpadeRings();
        c.due("at first", x.trace(), 0);
        Check.write(x, "digger 1 1;spade 1;");
        x.gang();
        long sum = 0;
        for (int kind = 0; kind <= 5; kind++) {
            x.mark(kind, 0);
            sum += BODIES[kind];
            c.due("together", x.trace(), sum);
        }
        x.keep(0);
        x.mark(5, 0);
        x.back(0);
        x.anew();
        x.ends();
        x.clear();
        x.dry();
        x.gang();
        c.due("it stays", x.trace(), sum + 100001);
        c.due("asked again", x.trace(), sum + 100001);
        c.due("nobody to mark", x.mark(5, 0), SpadeRings.NO);
        c.due("it stays", x.trace(), sum + 100001);
        c.due("another object's", new SpadeRings().trace(), 0);
    }

    // ---- images

    private static int[] state(SpadeRings x) {
        int[] state = new int[36];
        int at = 0;
        for (int what = 0; what <= 5; what++) {
            state[at++] = x.now(what);
        }
        for (int d = 0; d < 6; d++) {
            state[at++] = x.digger(d, 3);
        }
        for (int i = 0; i < 8; i++) {
            state[at++] = x.spade(i, 2);
            state[at++] = x.yard(i, 2);
            state[at++] = x.may(i % 6, i);
        }
        return state;
    }

    private static void same(String what, int[] got, int[] want) {
        for (int i = 0; i < want.length; i++) {
            c.due(what + ", " + i, got[i], want[i]);
        }
    }

    /** Every part of what an image keeps is other than at first, and other than with another number. */
    private static SpadeRings busy(int first) {
        SpadeRings x = Check.gang("digger1 2;digger2 3;digger3 4;digger4 5;digger5 6;digger6 7;" + "spade1;".repeat(8)
                + "yard1 1;yard2 1;yard3 1;yard4 1;yard5 1;yard6 1;yard7 1;yard99 1;");
        more(x, first, 5);
        return x;
    }

    private static void more(SpadeRings x, int first, int rounds) {
        for (int round = 0; round < rounds; round++) {
            for (int d = 0; d < 6; d++) {
                x.throwWith(d, (d + round + first) % 8);
            }
            if (round < rounds - 1) {
                x.ends();
            }
        }
        x.breaks((first + 1) % 8);
        x.breaks((first + 7) % 8);
    }

    private static void imagesRefused() {
        c.says("IMAGES 0, 1: BAD");
        SpadeRings x = busy(0);
        int[] before = state(x);
        for (int image : new int[] {Integer.MIN_VALUE, -1, 2, 3, 32, Integer.MAX_VALUE}) {
            c.due("keep " + image, x.keep(image), SpadeRings.BAD);
            c.due("back " + image, x.back(image), SpadeRings.BAD);
        }
        c.due("none was kept", x.back(0), SpadeRings.STATE);
        c.due("none was kept", x.back(1), SpadeRings.STATE);
        same("nothing changed", state(x), before);
    }

    private static void noneWasKept() {
        c.says("back: STATE: none was kept");
        for (int image = 0; image <= 1; image++) {
            SpadeRings x = busy(2);
            int[] before = state(x);
            c.due("none", x.back(image), SpadeRings.STATE);
            same("nothing changed", state(x), before);
            c.due("keep the other one", x.keep(1 - image), 4);
            c.due("none still", x.back(image), SpadeRings.STATE);
            c.due("the other one", x.back(1 - image), 4);
            c.due("none still", x.back(image), SpadeRings.STATE);
            c.due("keep", x.keep(image), 4);
            c.due("back", x.back(image), 4);
        }
        c.due("a new object", new SpadeRings().back(0), SpadeRings.STATE);
        c.due("a new object", new SpadeRings().back(1), SpadeRings.STATE);
    }

    private static void badAheadOfState() {
        c.says("Refused the first of these: BAD, STATE");
        for (int image : new int[] {-1, 2}) {
            c.due("none was kept", new SpadeRings().back(image), SpadeRings.BAD);
            SpadeRings x = new SpadeRings();
            x.keep(0);
            x.keep(1);
            c.due("both were kept", x.back(image), SpadeRings.BAD);
        }
    }

    private static void anImageOfFirst() {
        c.says("An IMAGE is kept: the ROUND. (0, and nobody there)");
        SpadeRings none = new SpadeRings();
        c.due("keep", none.keep(0), 0);
        none.ends();
        c.due("back", none.back(0), 0);
        c.due("round", none.now(0), 0);
        SpadeRings x = Check.gang(Check.fullGang());
        int[] first = state(x);
        c.due("keep", x.keep(1), 0);
        more(x, 0, 3);
        c.due("back", x.back(1), 0);
        same("as at first", state(x), first);
    }

    private static void anImageHasAll() {
        c.says("IMAGES keep NOW (ROUND, BEATS, who threw with what, in this ROUND, YARDS, ALL EARTH, BROKEN ones)");
        for (int image = 0; image <= 1; image++) {
            SpadeRings x = busy(3);
            int[] kept = state(x);
            c.due("round", kept[0], 4);
            c.due("beats", kept[1], 28);
            c.due("yard", kept[3], 7);
            c.due("who threw", kept[4], 63);
            c.due("keep", x.keep(image), 4);
            same("keep changes nothing", state(x), kept);
            x.anew();
            c.due("back from anew", x.back(image), 4);
            same("back from anew", state(x), kept);
            x.ends();
            more(x, 0, 3);
            x.ends();
            c.due("rounds later", x.now(0), 8);
            c.due("back", x.back(image), 4);
            same("back from later", state(x), kept);
            c.due("who threw can't again", x.throwWith(0, 0), SpadeRings.STATE);
            c.due("the round ends as it would have", x.ends(), 7);
            c.due("back once more", x.back(image), 4);
            same("back once more", state(x), kept);
        }
    }

    private static void nothingElse() {
        c.says("IMAGES keep NOW; nothing else");
        SpadeRings x = busy(0);
        x.keep(0);
        x.tell(1, 2, 3);
        x.tell(1, 2, 3);
        x.tell(1, 2, 4);
        x.hole(0, 8, 2);
        Check.write(x, "spade 5;");
        x.mark(0, 0);
        x.keep(1);
        x.back(0);
        c.due("told", x.count(4), 3);
        c.due("cheats", x.cheats(0), 4);
        c.due("false", x.cheats(1), 1);
        c.due("holes", x.count(3), 1);
        c.due("least", x.least(), 4);
        c.due("bytes", x.count(5), 8);
        c.due("trace", x.trace(), 1);
        c.due("the other image", x.back(1), 4);
        c.due("the text", x.gang(), 1);
        c.due("sharp", x.spade(0, 0), 5);
    }

    private static void imagesAreTwo() {
        c.says("IMAGES 0, 1");
        SpadeRings x = busy(1);
        int[] early = state(x);
        x.keep(0);
        x.anew();
        more(x, 4, 2);
        int[] late = state(x);
        c.due("keep", x.keep(1), 1);
        c.due("back 0", x.back(0), 4);
        same("image 0", state(x), early);
        c.due("back 1", x.back(1), 1);
        same("image 1", state(x), late);
        c.due("kept over", x.keep(0), 1);
        x.anew();
        c.due("back 0", x.back(0), 1);
        same("image 0, kept over", state(x), late);
        x.anew();
        c.due("back 1", x.back(1), 1);
        same("image 1 stays", state(x), late);
    }

    private static void imagesAreGone() {
        c.says("Read anew: IMAGES are gone");
        SpadeRings x = busy(1);
        x.keep(0);
        x.keep(1);
        Check.write(x, "digger");
        c.due("a fault", x.gang(), -16);
        c.due("then they stay", x.back(0), 4);
        c.due("then they stay", x.back(1), 4);
        x.clear();
        c.due("gang", x.gang(), 0);
        c.due("gone", x.back(0), SpadeRings.STATE);
        c.due("gone", x.back(1), SpadeRings.STATE);
        c.due("keep", x.keep(1), 0);
        c.due("gone still", x.back(0), SpadeRings.STATE);
        c.due("kept", x.back(1), 0);
    }

    private static void readAnew() {
        c.says("Read anew: NOW is as at first, nothing is TOLD");
        SpadeRings x = busy(1);
        x.tell(0, 0, 0);
        x.hole(0, 1, 1);
        Check.write(x, Check.fullGang());
        c.due("gang", x.gang(), 22);
        same("as at first", state(x), state(Check.gang(Check.fullGang())));
        c.due("told", x.count(4), 0);
        c.due("holes", x.count(3), 1);
    }

    // ---- count

    private static void counts() {
        c.says("0 diggers, 1 SPADES, 2 YARDS, 3 HOLES, 4 TOLD, 5 bytes of THE TEXT. BAD.");
        SpadeRings x = Check.gang("digger 1 1;spade 1;spade 1;yard 1 1;yard 1 1;yard 1 1;");
        for (int i = 0; i < 4; i++) {
            x.hole(0, 1, 1);
        }
        for (int i = 0; i < 5; i++) {
            x.tell(0, 0, 0);
        }
        Check.write(x, "spade ");
        for (int what = 0; what <= 5; what++) {
            c.due("count " + what, x.count(what), what + 1);
        }
        for (int what : new int[] {Integer.MIN_VALUE, -1, 6, 7, Integer.MAX_VALUE}) {
            c.due("count " + what, x.count(what), SpadeRings.BAD);
            c.due("count " + what, new SpadeRings().count(what), SpadeRings.BAD);
        }
    }
}
