/** Promises 1 to 7: a new object, the text, and what it tells. */
public final class GangTest {
    private static final String GANG = "digger 5 4;digger 3 2 left;spade 9;spade 8 right;spade 7 left;yard 99 1;yard 1 9;";
    private static final Check c = new Check("GangTest");

    public static void main(String[] args) {
        newObject();
        typing();
        clearing();
        telling();
        whatIsTold();
        faults();
        tooMany();
        behindTheEnd();
        readAnew();
        c.close();
    }

    private static void newObject() {
        SpadeRings x = new SpadeRings();
        for (int what = 0; what <= 5; what++) {
            c.due("new count " + what, x.count(what), 0);
            c.due("new now " + what, x.now(what), 0);
        }
        c.due("new trace", x.trace(), 0);
        c.due("new back(0)", x.back(0), SpadeRings.STATE);
        c.due("new back(1)", x.back(1), SpadeRings.STATE);
        c.due("new longest", x.longest(), 0);
        c.due("new begins", x.begins(0), SpadeRings.BAD);
        c.due("new least", x.least(), 1);
        c.due("new digger", x.digger(0, 0), SpadeRings.BAD);
        c.due("new spade", x.spade(0, 0), SpadeRings.BAD);
        c.due("new yard", x.yard(0, 0), SpadeRings.BAD);
    }

    private static void typing() {
        SpadeRings x = new SpadeRings();
        c.due("n 0", x.type(65, 0), SpadeRings.BAD);
        c.due("n 9", x.type(65, 9), SpadeRings.BAD);
        c.due("n -1", x.type(65, -1), SpadeRings.BAD);
        c.due("n min", x.type(65, Integer.MIN_VALUE), SpadeRings.BAD);
        c.due("nothing came", x.count(5), 0);
        // Only the lowest bytes come: what stands above them is left out.
        c.due("yard, one byte each", x.type(0x7777777777777700L | 'y', 1), 1);
        c.due("'ar'", x.type(-1L << 16 | 'a' << 8 | 'r', 2), 3);
        c.due("'d 7 3;'", x.type(Check.packed("d 7 3;"), 6), 9);
        c.due("gang", x.gang(), 1);
        c.due("deep", x.yard(0, 0), 7);
        c.due("soil", x.yard(0, 1), 3);
        full();
    }

    private static void full() {
        SpadeRings x = new SpadeRings();
        long blanks = Check.packed("        ");
        for (int i = 1; i <= 37; i++) {
            c.due("blanks", x.type(blanks, 8), 8 * i);
        }
        c.due("5 more are too many", x.type(blanks, 5), SpadeRings.FULL);
        c.due("BAD ahead of FULL", x.type(blanks, 9), SpadeRings.BAD);
        c.due("4 more", x.type(blanks, 4), 300);
        c.due("1 more is too many", x.type(blanks, 1), SpadeRings.FULL);
        c.due("count", x.count(5), 300);
        c.due("blanks alone tell nothing", x.gang(), 0);
        c.due("the text is empty", x.count(5), 0);
    }

    private static void clearing() {
        SpadeRings x = new SpadeRings();
        c.due("clear", x.clear(), 0);
        Check.write(x, "digger 1 1;");
        c.due("clear", x.clear(), 11);
        c.due("clear", x.clear(), 0);
        c.due("nothing is told", x.gang(), 0);
        c.due("diggers", x.count(0), 0);
    }

    private static void telling() {
        c.due("all kinds", items(GANG), 7);
        c.due("blanks all over", items("  digger  5  4  left  ;  spade  9  right ; "), 2);
        c.due("no blanks", items("digger5 4left;spade9right;yard99 9;"), 3);
        c.due("any order", items("yard 1 1;spade 1;digger 9 9;spade 2 left;digger 1 1;"), 5);
        c.due("greatest numbers", items("digger 9 9;spade 9;yard 99 9;"), 3);
        c.due("least numbers", items("digger 1 1;spade 1;yard 1 1;"), 3);
        c.due("two figures", items("yard 10 1;"), 1);
        c.due("empty", items(""), 0);
        String most = "digger1 1;".repeat(6) + "spade1;".repeat(8) + "yard1 1;".repeat(8);
        c.due("as many as may be", items(most), 22);
    }

    private static int items(String text) {
        SpadeRings x = new SpadeRings();
        Check.write(x, text);
        int answer = x.gang();
        c.due("text left of '" + text + "'", x.count(5), answer < 0 ? text.length() : 0);
        return answer;
    }

    private static void whatIsTold() {
        SpadeRings x = Check.gang(GANG);
        c.due("diggers", x.count(0), 2);
        c.due("spades", x.count(1), 3);
        c.due("yards", x.count(2), 2);
        row("digger 0", new int[] {x.digger(0, 0), x.digger(0, 1), x.digger(0, 2), x.digger(0, 3)}, 5, 4, 0, 0);
        row("digger 1", new int[] {x.digger(1, 0), x.digger(1, 1), x.digger(1, 2), x.digger(1, 3)}, 3, 2, 1, 0);
        row("spade 0", new int[] {x.spade(0, 0), x.spade(0, 1), x.spade(0, 2)}, 9, 0, 0);
        row("spade 1", new int[] {x.spade(1, 0), x.spade(1, 1), x.spade(1, 2)}, 8, 1, 0);
        row("spade 2", new int[] {x.spade(2, 0), x.spade(2, 1), x.spade(2, 2)}, 7, 2, 0);
        row("yard 0", new int[] {x.yard(0, 0), x.yard(0, 1), x.yard(0, 2)}, 99, 1, 0);
        row("yard 1", new int[] {x.yard(1, 0), x.yard(1, 1), x.yard(1, 2)}, 1, 9, 0);
        int[][] bad = {{-1, 0}, {9, 0}, {0, -1}, {0, 4}, {Integer.MAX_VALUE, 0}, {Integer.MIN_VALUE, 0}};
        for (int[] one : bad) {
            c.due("digger BAD", x.digger(one[0], one[1]), SpadeRings.BAD);
            c.due("spade BAD", x.spade(one[0], one[1]), SpadeRings.BAD);
            c.due("yard BAD", x.yard(one[0], one[1]), SpadeRings.BAD);
        }
        c.due("no third digger", x.digger(2, 0), SpadeRings.BAD);
        c.due("no fourth spade", x.spade(3, 0), SpadeRings.BAD);
        c.due("no third yard", x.yard(2, 0), SpadeRings.BAD);
        c.due("spade what 3", x.spade(0, 3), SpadeRings.BAD);
        c.due("yard what 3", x.yard(0, 3), SpadeRings.BAD);
    }

    private static void row(String what, int[] got, int... want) {
        for (int i = 0; i < want.length; i++) {
            c.due(what + ", " + i, got[i], want[i]);
        }
    }

    /** The bar in a text stands ahead of the fault and is not typed. */
    private static void faults() {
        String[] texts = {
            "|dig 1 1;", "|diggers 1 1;", "|Digger 1 1;", "|;", "|5;", "|left;", "|right;", "|0", "|100", "|\u00c8",
            "digger |0 1;", "digger 1 |0;", "digger |10 1;", "digger 1 |10;", "digger |01 1;", "digger |100 1;",
            "digger |1000000000000000000000 1;", "digger |54;", "digger 5 |;", "digger |;", "digger |left;",
            "digger 1 1 |right;", "digger 1 1 |1;", "digger 1 1 |lefty;", "digger 1 1 left |left;",
            "digger 1 1 left |right;", "digger 1 1 |digger 1 1;", "digger|-1 1;", "digger 1|,1;", "digger|\t1 1;",
            "digger |digger;", "|dig ger 1 1;", "|xigger 1 1;", "|diggex 1 1;", "|diggerz 1 1;", "|zdigger 1 1;", "|adigger 1 1;",
            "|xpade 1;", "|xard 1 1;", "digger 1 1 |xeft;", "spade 1 |xight;", "spade 1 |righ;",
            "spade |0;", "spade |10;", "spade |;", "spade |left;", "spade 5 |5;", "spade 5 left |right;",
            "spade 5 right |left;", "spade 5 |leftright;", "spade 5 |rights;",
            "yard |0 1;", "yard |100 1;", "yard |099 1;", "yard 99 |0;", "yard 99 |10;", "yard 99 |99;", "yard 1 |;",
            "yard 1 1 |left;", "yard 1 1|.;",
            "digger 1 1;|;", "digger 1 1;spade 1; |x", "digger 1 1;spade 1;yard 1 |spade", "digger 1 1;|00;",
            "digger|", "digger |", "digger 1|", "digger 1 1|", "digger 1 1  |", "digger 1 1 left|", "spade 9  |",
            "spade|", "yard|", "yard |", "yard 3 |", "yard 3 4|", "spade 1;digger|",
        };
        for (String barred : texts) {
            int place = barred.indexOf('|');
            String text = barred.substring(0, place) + barred.substring(place + 1);
            c.due("gang of '" + text + "'", items(text), -10 - place);
        }
    }

    private static void tooMany() {
        c.due("a seventh digger", items("digger1 1;".repeat(7)), -10 - 60);
        c.due("a ninth spade", items("spade1;".repeat(9)), -10 - 56);
        c.due("a ninth yard", items("yard1 1;".repeat(9)), -10 - 64);
        c.due("a ninth yard, cut short", items("yard1 1;".repeat(8) + " yard"), -10 - 65);
    }

    /** What stood behind a text's end before is not read. */
    private static void behindTheEnd() {
        SpadeRings x = new SpadeRings();
        Check.write(x, "digger 15 1;");
        x.clear();
        Check.write(x, "digger 1");
        c.due("no figure from before", x.gang(), -10 - 8);
        x.clear();
        Check.write(x, "digger 1 1;");
        x.clear();
        Check.write(x, "dig");
        c.due("no letter from before", x.gang(), -10);
        x.clear();
        Check.write(x, "digger 1 1 ");
        c.due("no ; from before", x.gang(), -10 - 11);
        x.clear();
        Check.write(x, "digger 1 1;spade 1;");
        c.due("two", x.gang(), 2);
        Check.write(x, "spade 2");
        c.due("no token from before", x.gang(), -10 - 7);
        Check.write(x, ";");
        c.due("it goes on", x.gang(), 1);
        c.due("sharp", x.spade(0, 0), 2);
        c.due("no diggers now", x.count(0), 0);
    }

    private static void readAnew() {
        SpadeRings x = Check.gang(GANG);
        x.throwWith(0, 0);
        x.ends();
        x.throwWith(1, 0);
        x.breaks(1);
        x.tell(1, 0, 0);
        x.hole(1, 2, 3);
        x.keep(0);
        x.mark(0, 0);
        Check.write(x, "digger 1 1;|");
        c.due("a fault", x.gang(), -10 - 11);
        c.due("the text stays", x.count(5), 12);
        c.due("the round stays", x.now(0), 1);
        c.due("the diggers stay", x.count(0), 2);
        c.due("strength stays", x.digger(0, 0), 5);
        c.due("what is told stays", x.count(4), 1);
        c.due("the image stays", x.back(0), 1);
        c.due("the text's own end", x.clear(), 12);
        Check.write(x, "digger 2 2;spade 3;spade 4;");
        c.due("anew", x.gang(), 3);
        for (int what = 0; what <= 5; what++) {
            c.due("now " + what, x.now(what), 0);
        }
        c.due("yards", x.count(2), 0);
        c.due("told", x.count(4), 0);
        c.due("holes stay", x.count(3), 1);
        c.due("no image", x.back(0), SpadeRings.STATE);
        c.due("trace stays", x.trace(), 1);
        c.due("threw with none", x.digger(0, 3), 0);
        c.due("not broken", x.spade(1, 2), 0);
        c.due("for any hand", x.spade(1, 1), 0);
        c.due("no second digger", x.digger(1, 0), SpadeRings.BAD);
        c.due("an empty text sends all away", x.gang(), 0);
        c.due("diggers", x.count(0), 0);
        c.due("spades", x.count(1), 0);
    }
}
