import java.util.List;

/** Passage 1, promises 1 to 7: each sentence that names a boundary has a test of its own. */
public final class EdgesGangTest {
    private static final Check c = new Check("EdgesGangTest");

    public static void main(String[] args) {
        aNewObject();
        sixDiggers();
        eightSpades();
        eightYards();
        asManyAsMayBe();
        numbers();
        hands();
        threeHundredBytes();
        fullAndOneMore();
        lowestBytes();
        howManyBytes();
        blankAlone();
        aroundBlanks();
        noItems();
        whatMayStandWhere();
        wordsThatAreNone();
        lettersFromAToZ();
        numbersThatAreNone();
        endsTooEarly();
        theFirstFault();
        faultAtTheEnds();
        clear();
        gangTellsAll();
        aFaultChangesNothing();
        ofADigger();
        ofASpade();
        ofAYard();
        c.close();
    }

    // ---- helps

    /** A text without a fault: so many items, and the text is empty then. */
    private static SpadeRings reads(String text, int items) {
        SpadeRings x = new SpadeRings();
        Check.write(x, text);
        c.due("gang of '" + text + "'", x.gang(), items);
        c.due("bytes left of '" + text + "'", x.count(5), 0);
        return x;
    }

    /** A text with its fault at a place: nobody comes of it, and the text stays. */
    private static void fault(String text, int place) {
        SpadeRings x = new SpadeRings();
        Check.write(x, text);
        c.due("gang of '" + text + "'", x.gang(), -10 - place);
        c.due("bytes left of '" + text + "'", x.count(5), text.length());
        for (int what = 0; what <= 2; what++) {
            c.due("count " + what + " behind '" + text + "'", x.count(what), 0);
        }
    }

    private static void type(SpadeRings x, int n, int want) {
        c.due("type of " + n, x.type(Check.packed("        "), n), want);
    }

    // ---- a new object

    private static void aNewObject() {
        c.says("As told; nobody, no SPADES, no YARDS.");
        SpadeRings x = new SpadeRings();
        for (int what = 0; what <= 5; what++) {
            c.due("count " + what, x.count(what), 0);
            c.due("now " + what, x.now(what), 0);
        }
        for (int i = 0; i < 8; i++) {
            c.due("digger " + i, x.digger(i, 0), SpadeRings.BAD);
            c.due("spade " + i, x.spade(i, 0), SpadeRings.BAD);
            c.due("yard " + i, x.yard(i, 0), SpadeRings.BAD);
            c.due("may 0 " + i, x.may(0, i), SpadeRings.BAD);
            c.due("breaks " + i, x.breaks(i), SpadeRings.BAD);
        }
        c.due("trace", x.trace(), 0);
    }

    // ---- how many

    private static void sixDiggers() {
        c.says("DIGGERS 0 .. (6 at most); a seventh digger, too");
        for (int n = 0; n <= 6; n++) {
            SpadeRings x = reads("digger 3 4;".repeat(n), n);
            c.due("diggers", x.count(0), n);
            c.due("the last one", x.digger(n - 1, 0), n == 0 ? SpadeRings.BAD : 3);
            c.due("one more", x.digger(n, 0), SpadeRings.BAD);
        }
        fault("digger 3 4;".repeat(7), 66);
        fault("digger 3 4;".repeat(6) + "digger", 66);
        fault("digger 3 4;".repeat(6) + " digger 0", 67);
        fault("digger 3 4;".repeat(6) + "spade 1; yard 1 1;  digger 3 4;", 66 + 20);
    }

    private static void eightSpades() {
        c.says("SPADES 0 .. (8 at most); a ninth spade, too");
        for (int n = 0; n <= 8; n++) {
            SpadeRings x = reads("spade 3;".repeat(n), n);
            c.due("spades", x.count(1), n);
            c.due("the last one", x.spade(n - 1, 0), n == 0 ? SpadeRings.BAD : 3);
            c.due("one more", x.spade(n, 0), SpadeRings.BAD);
        }
        fault("spade 3;".repeat(9), 64);
        fault("spade 3;".repeat(8) + "spade", 64);
        fault("spade 3;".repeat(8) + " spade 0", 65);
        fault("spade 3;".repeat(8) + "yard 1 1; digger 1 1; spade 3 left;", 64 + 22);
    }

    private static void eightYards() {
        c.says("YARDS 0 .. (8 at most); a ninth yard, too");
        for (int n = 0; n <= 8; n++) {
            SpadeRings x = reads("yard 3 4;".repeat(n), n);
            c.due("yards", x.count(2), n);
            c.due("the last one", x.yard(n - 1, 0), n == 0 ? SpadeRings.BAD : 3);
            c.due("one more", x.yard(n, 0), SpadeRings.BAD);
        }
        fault("yard 3 4;".repeat(9), 72);
        fault("yard 3 4;".repeat(8) + "yard", 72);
        fault("yard 3 4;".repeat(8) + " yard 100", 73);
        fault("yard 3 4;".repeat(8) + "spade 1; digger 1 1; yard 3 4;", 72 + 21);
    }

    private static void asManyAsMayBe() {
        c.says("6 at most, 8 at most, 8 at most: all at once");
        String all = Check.fullGang();
        SpadeRings x = reads(all, 22);
        c.due("diggers", x.count(0), 6);
        c.due("spades", x.count(1), 8);
        c.due("yards", x.count(2), 8);
        fault(all + "digger1 1;", all.length());
        fault(all + "spade1;", all.length());
        fault(all + "yard1 1;", all.length());
    }

    // ---- numbers

    private static void numbers() {
        c.says("a STRENGTH (1 .. 9); a NUMBER beyond what it may be, too");
        number("digger ", " 5;", 9, 0, 0);
        c.says("a PACE (1 .. 9 beats)");
        number("digger 5 ", ";", 9, 0, 1);
        number("digger 5 ", " left;", 9, 0, 1);
        c.says("SPADES are SHARP (1 .. 9)");
        number("spade ", ";", 9, 1, 0);
        number("spade ", " right;", 9, 1, 0);
        number("spade ", " left;", 9, 1, 0);
        c.says("YARDS are DEEP (1 .. 99 clods)");
        number("yard ", " 5;", 99, 2, 0);
        c.says("of a SOIL (1 .. 9)");
        number("yard 5 ", ";", 9, 2, 1);
    }

    private static void number(String ahead, String behind, int most, int kind, int what) {
        for (int n = 0; n <= 110; n++) {
            String text = ahead + n + behind;
            if (n < 1 || n > most) {
                fault(text, ahead.length());
            } else {
                SpadeRings x = reads(text, 1);
                int got = kind == 0 ? x.digger(0, what) : kind == 1 ? x.spade(0, what) : x.yard(0, what);
                c.due("told by '" + text + "'", got, n);
            }
        }
    }

    private static void hands() {
        c.says("a HAND (right or left): digger S P, then perhaps left");
        SpadeRings x = reads("digger 1 2;digger 3 4 left;", 2);
        c.due("right", x.digger(0, 2), 0);
        c.due("left", x.digger(1, 2), 1);
        fault("digger 1 2 right;", 11);
        fault("digger 1 2 left left;", 16);
        fault("digger left 1 2;", 7);
        c.says("for any HAND, or for one: spade K, then perhaps right or left");
        SpadeRings y = reads("spade 1;spade 1 right;spade 1 left;", 3);
        for (int s = 0; s < 3; s++) {
            c.due("for whom, " + s, y.spade(s, 1), s);
        }
        fault("spade 1 right left;", 14);
        fault("spade 1 left right;", 13);
        fault("spade left 1;", 6);
        c.says("yard D S");
        fault("yard 1 1 left;", 9);
        fault("yard 1 1 right;", 9);
    }

    // ---- the text

    private static void threeHundredBytes() {
        c.says("They are a text (300 bytes at most)");
        SpadeRings x = new SpadeRings();
        for (int i = 1; i <= 300; i++) {
            type(x, 1, i);
        }
        type(x, 1, SpadeRings.FULL);
        c.due("bytes", x.count(5), 300);
        c.due("no items", x.gang(), 0);
        // The last byte of all is read, too.
        for (int n = 299; n <= 300; n++) {
            SpadeRings y = reads(" ".repeat(n - 8) + "spade 7;", 1);
            c.due("sharp", y.spade(0, 0), 7);
        }
    }

    private static void fullAndOneMore() {
        c.says("type: BAD; FULL.");
        for (int there = 285; there <= 300; there++) {
            for (int n = 1; n <= 8; n++) {
                SpadeRings x = new SpadeRings();
                Check.write(x, "spade 5;" + " ".repeat(there - 8));
                int want = there + n <= 300 ? there + n : SpadeRings.FULL;
                type(x, n, want);
                c.due("bytes", x.count(5), want == SpadeRings.FULL ? there : there + n);
                c.due("one item all the same", x.gang(), 1);
                type(x, n, n);
            }
        }
        c.says("Refused the first of these: BAD, FULL");
        SpadeRings full = new SpadeRings();
        Check.write(full, " ".repeat(300));
        for (int n : new int[] {0, -1, 9, Integer.MIN_VALUE, Integer.MAX_VALUE}) {
            type(full, n, SpadeRings.BAD);
        }
        type(full, 1, SpadeRings.FULL);
        type(full, 8, SpadeRings.FULL);
    }

    private static void lowestBytes() {
        c.says("The lowest n (1 .. 8) bytes of v, the highest of them first");
        String text = "yard 12 3;spade 4 left;digger 5 6 left;";
        for (int n = 1; n <= 8; n++) {
            for (long above : new long[] {0, -1}) {
                SpadeRings x = new SpadeRings();
                for (int from = 0; from < text.length(); from += n) {
                    String part = text.substring(from, Math.min(from + n, text.length()));
                    long garbage = part.length() == 8 ? 0 : above << 8 * part.length();
                    c.due("type", x.type(garbage | Check.packed(part), part.length()), from + part.length());
                }
                c.due("gang, by " + n, x.gang(), 3);
                c.due("deep", x.yard(0, 0), 12);
                c.due("soil", x.yard(0, 1), 3);
                c.due("sharp", x.spade(0, 0), 4);
                c.due("strength", x.digger(0, 0), 5);
                c.due("pace", x.digger(0, 1), 6);
            }
        }
    }

    private static void howManyBytes() {
        c.says("n (1 .. 8): BAD");
        for (int n : new int[] {Integer.MIN_VALUE, -1, 0, 9, 10, 264, Integer.MAX_VALUE}) {
            SpadeRings x = new SpadeRings();
            type(x, n, SpadeRings.BAD);
            c.due("bytes", x.count(5), 0);
        }
        for (int n = 1; n <= 8; n++) {
            type(new SpadeRings(), n, n);
        }
        for (long v : new long[] {Long.MIN_VALUE, -1, 0, Long.MAX_VALUE}) {
            c.due("any v", new SpadeRings().type(v, 8), 8);
        }
    }

    // ---- blanks

    private static void blankAlone() {
        c.says("blanks (32); FAULT of a byte that begins none");
        for (char sign = 0; sign < 256; sign++) {
            if (sign == 32) {
                reads(" ", 0);
                reads(" yard 1 1;", 1);
                reads("yard 1 1; ", 1);
                reads("yard 1 1 ;", 1);
            } else {
                fault("" + sign, 0);
                fault(sign + "yard 1 1;", 0);
                fault("yard 1 1;" + sign, 9);
                fault("yard 1 1" + sign + ";", sign >= '0' && sign <= '9' ? 7 : sign == ';' ? 9 : 8);
            }
            // Two halves of a word are none, whatever stands between them.
            fault("ya" + sign + "rd 1 1;", 0);
        }
    }

    private static void aroundBlanks() {
        c.says("blanks ahead of, between and behind TOKENS as may be (none needed where TOKENS end without)");
        reads("digger1 1;spade1;yard1 1;", 3);
        reads("digger1 1left;spade1right;spade1left;yard99 1;", 4);
        reads("   digger   1   1   left   ;   spade   1   right   ;   yard   1   1   ;   ", 3);
        reads(" ".repeat(250) + "digger1 1;", 1);
        reads("digger" + " ".repeat(250) + "1 1;", 1);
        reads("digger1" + " ".repeat(250) + "1;", 1);
        reads("digger1 1" + " ".repeat(250) + ";", 1);
        reads("digger1 1;" + " ".repeat(290), 1);
        fault("digger11;", 6);
        fault("yard11;", 6);
        fault("yard111;", 4);
        fault("spadeleft;", 0);
        fault("spade1leftright;", 6);
        fault("digger 1 1leftspade 1;", 10);
    }

    private static void noItems() {
        c.says("ITEMS (none, too), each ended by ;");
        reads("", 0);
        reads(" ", 0);
        reads(" ".repeat(300), 0);
        fault(";", 0);
        fault("spade 1;;", 8);
        fault("spade 1 spade 1;", 8);
        fault("digger 1 1 yard 1 1;", 11);
        fault("yard 1 1", 8);
    }

    // ---- faults

    /** Each token behind each beginning: it may stand there, or is the fault. */
    private static void whatMayStandWhere() {
        c.says("FAULT: the place of the first byte of the first TOKEN that can't stand there");
        String one = "1 2 3 4 5 6 7 8 9 ";
        String two = "10 11 19 20 50 89 90 98 99 ";
        mayStand("", "digger spade yard ");
        mayStand("digger ", one);
        mayStand("digger 1 ", one);
        mayStand("digger 1 1 ", "left ; ");
        mayStand("digger 1 1 left ", "; ");
        mayStand("spade ", one);
        mayStand("spade 1 ", "right left ; ");
        mayStand("spade 1 right ", "; ");
        mayStand("spade 1 left ", "; ");
        mayStand("yard ", one + two);
        mayStand("yard 1 ", one);
        mayStand("yard 1 1 ", "; ");
    }

    private static void mayStand(String ahead, String these) {
        String all = "digger spade yard right left ; 0 1 2 3 4 5 6 7 8 9 10 11 19 20 50 89 90 98 99 100 00 01 x ? ";
        for (String token : all.split(" ")) {
            for (String former : List.of("", "spade 9;  ")) {
                String text = former + ahead + token;
                int place = (former + ahead).length();
                if (!these.contains(token + " ") || token.equals("0") || token.equals("00") || token.equals("01")) {
                    fault(text, place);
                } else if (token.equals(";")) {
                    reads(text, former.isEmpty() ? 1 : 2);
                } else {
                    fault(text, text.length());
                }
            }
        }
    }

    private static void wordsThatAreNone() {
        c.says("FAULT of a word that is none of these, that TOKEN's");
        likeWord("", "digger", " 1 1;");
        likeWord("", "spade", " 1;");
        likeWord("", "yard", " 1 1;");
        likeWord("digger 1 1 ", "left", ";");
        likeWord("spade 1 ", "left", ";");
        likeWord("spade 1 ", "right", ";");
    }

    private static void likeWord(String ahead, String word, String behind) {
        int place = ahead.length();
        reads(ahead + word + behind, 1);
        fault(ahead + word.substring(1) + behind, place);
        fault(ahead + word.substring(0, word.length() - 1) + behind, place);
        fault(ahead + word + "s" + behind, place);
        fault(ahead + word + word + behind, place);
        fault(ahead + "a" + word + behind, place);
        for (int i = 0; i < word.length(); i++) {
            char other = (char) (word.charAt(i) + 1);
            fault(ahead + word.substring(0, i) + other + word.substring(i + 1) + behind, place);
            char large = (char) (word.charAt(i) - 32);
            fault(ahead + word.substring(0, i) + large + word.substring(i + 1) + behind, place);
        }
    }

    private static void lettersFromAToZ() {
        c.says("words of letters a .. z");
        // A letter behind a word makes it another word; what is no letter is a token of its own.
        for (char sign = 'a'; sign <= 'z'; sign++) {
            fault("digger 1 1 left" + sign + ";", 11);
        }
        fault("digger 1 1 left`;", 15);
        fault("digger 1 1 left{;", 15);
        fault("digger 1 1 leftA;", 15);
        fault("digger 1 1 leftZ;", 15);
        fault("digger 1 1 left9;", 15);
    }

    private static void numbersThatAreNone() {
        c.says("FAULT of a NUMBER above 99 or with a 0 ahead of others, that TOKEN's");
        String[] none = {"00", "01", "09", "010", "001", "000", "099", "100", "101", "110", "111", "999", "1000",
            "256", "257", "65537", "4294967296", "4294967297", "18446744073709551617", "1".repeat(200)};
        String[][] around = {{"digger ", " 1;"}, {"digger 1 ", ";"}, {"spade ", ";"}, {"yard ", " 1;"},
            {"yard 1 ", ";"}, {"", ""}, {"spade 1 ", ";"}, {"spade 1; ", " spade 1;"}};
        for (String number : none) {
            for (String[] one : around) {
                fault(one[0] + number + one[1], one[0].length());
            }
        }
        // What stands beside 0 and 9 is no digit.
        fault("yard 1/1;", 6);
        fault("yard 1:1;", 6);
        fault("yard 99/ 1;", 7);
        fault("yard 99: 1;", 7);
    }

    /** One text with each kind of item, cut behind each of its bytes. */
    private static void endsTooEarly() {
        c.says("FAULT: the text's length, if it ends too early");
        String text = "digger 1 2 left;spade 3 right; spade 4 left;yard 56 7 ;digger 8 9;spade 1;";
        int items = 0;
        int itemEnd = 0;
        int word = 0;
        for (int end = 1; end <= text.length(); end++) {
            char last = text.charAt(end - 1);
            if (last == ';') {
                items++;
                itemEnd = end;
            }
            boolean letter = last >= 'a' && last <= 'z';
            if (letter && (end == 1 || !isLetter(text.charAt(end - 2)))) {
                word = end - 1;
            }
            String cut = text.substring(0, end);
            boolean inWord = letter && isLetter(text.charAt(end));
            if (cut.substring(itemEnd).isBlank()) {
                reads(cut, items);
            } else {
                fault(cut, inWord ? word : end);
                fault(cut + "  ", inWord ? word : end + 2);
            }
        }
    }

    private static boolean isLetter(char sign) {
        return sign >= 'a' && sign <= 'z';
    }

    private static void theFirstFault() {
        c.says("the first TOKEN that can't stand there: of several faults");
        fault("digger 0 0;", 7);
        fault("digger 1 0; spade 0;", 9);
        fault("spade 1; spad 1; ?", 9);
        fault("spade 1 ? 100", 8);
        fault("yard 100 0;", 5);
        fault("digger 1 1;".repeat(5) + "digger 1 0;" + "digger 1 1;", 55 + 9);
        fault("digger 1 1;".repeat(6) + "spade 0;" + "digger 1 1;", 66 + 6);
        fault("digger 1 1 ? digger", 11);
        fault("digger ; ;", 7);
    }

    private static void faultAtTheEnds() {
        c.says("-10 less FAULT");
        fault("?", 0);
        fault(" ".repeat(299) + "?", 299);
        fault(" ".repeat(296) + "yard", 300);
        fault("yard" + " ".repeat(296), 300);
        fault(" ".repeat(299) + ";", 299);
        fault(";".repeat(300), 0);
        fault("x".repeat(300), 0);
        fault("spade " + "1".repeat(294), 6);
    }

    // ---- clear, gang

    private static void clear() {
        c.says("THE TEXT is empty: how many bytes it had.");
        SpadeRings x = new SpadeRings();
        c.due("nothing there", x.clear(), 0);
        type(x, 1, 1);
        c.due("one byte", x.clear(), 1);
        c.due("nothing there", x.clear(), 0);
        Check.write(x, "?".repeat(300));
        c.due("full", x.clear(), 300);
        c.due("bytes", x.count(5), 0);
        c.due("what stood there is gone", x.gang(), 0);
        Check.write(x, " ".repeat(292) + "spade 9;");
        c.due("full again", x.count(5), 300);
        c.due("nothing of the former text", x.gang(), 1);
    }

    private static void gangTellsAll() {
        c.says("THE TEXT tells all, and is empty then: how many ITEMS.");
        SpadeRings x = Check.gang("digger 1 2 left;spade 3 left;spade 4;yard 5 6;yard 7 8;yard 9 1;");
        c.due("diggers", x.count(0), 1);
        c.due("spades", x.count(1), 2);
        c.due("yards", x.count(2), 3);
        Check.write(x, "digger 9 8;digger 7 6;spade 5 right;");
        c.due("gang", x.gang(), 3);
        c.due("diggers", x.count(0), 2);
        c.due("spades", x.count(1), 1);
        c.due("yards", x.count(2), 0);
        c.due("strength", x.digger(0, 0), 9);
        c.due("hand", x.digger(0, 2), 0);
        c.due("for whom", x.spade(0, 1), 1);
        c.due("no second spade", x.spade(1, 0), SpadeRings.BAD);
        c.due("no yard", x.yard(0, 0), SpadeRings.BAD);
        c.due("an empty text tells of nobody", x.gang(), 0);
        for (int what = 0; what <= 2; what++) {
            c.due("count " + what, x.count(what), 0);
        }
    }

    private static void aFaultChangesNothing() {
        c.says("nothing changes (THE TEXT, too, stays)");
        SpadeRings x = Check.gang("digger 1 2 left;spade 3 left;spade 4;yard 5 6;");
        Check.write(x, "digger 9 9;digger 9 9;spade 9;yard 99 9;yard 99 9");
        for (int again = 0; again < 2; again++) {
            c.due("a fault", x.gang(), -10 - 49);
            c.due("bytes", x.count(5), 49);
            c.due("diggers", x.count(0), 1);
            c.due("strength", x.digger(0, 0), 1);
            c.due("pace", x.digger(0, 1), 2);
            c.due("hand", x.digger(0, 2), 1);
            c.due("spades", x.count(1), 2);
            c.due("sharp", x.spade(0, 0), 3);
            c.due("for whom", x.spade(0, 1), 2);
            c.due("yards", x.count(2), 1);
            c.due("deep", x.yard(0, 0), 5);
            c.due("soil", x.yard(0, 1), 6);
        }
        Check.write(x, ";");
        c.due("the text goes on", x.gang(), 5);
        c.due("strength", x.digger(1, 0), 9);
        c.due("deep", x.yard(1, 0), 99);
    }

    // ---- of a digger, a spade, a yard

    private static void ofADigger() {
        c.says("Of a digger: 0 STRENGTH, 1 PACE, 2 HAND (0 right, 1 left), 3 SPADES it threw with (bits). BAD.");
        SpadeRings x = Check.gang("digger 1 9;digger 2 8 left;digger 3 7;digger 4 6 left;digger 5 5;digger 9 1 left;"
                + "spade 1;".repeat(8));
        int[] strength = {1, 2, 3, 4, 5, 9};
        int[] pace = {9, 8, 7, 6, 5, 1};
        for (int d = 0; d < 6; d++) {
            c.due("strength", x.digger(d, 0), strength[d]);
            c.due("pace", x.digger(d, 1), pace[d]);
            c.due("hand", x.digger(d, 2), d % 2);
            c.due("threw with none", x.digger(d, 3), 0);
            x.throwWith(d, 7 - d);
            c.due("threw with one", x.digger(d, 3), 1 << 7 - d);
        }
        int[][] bad = {{-1, 0}, {6, 0}, {7, 3}, {0, -1}, {0, 4}, {5, 4}, {5, -1}, {6, 4}, {Integer.MIN_VALUE, 0},
            {Integer.MAX_VALUE, 0}, {0, Integer.MIN_VALUE}, {0, Integer.MAX_VALUE}};
        for (int[] b : bad) {
            c.due("digger " + b[0] + " " + b[1], x.digger(b[0], b[1]), SpadeRings.BAD);
        }
    }

    private static void ofASpade() {
        c.says("Of a SPADE: 0 SHARP, 1 for whom (0 any, 1 right, 2 left), 2 whether it is BROKEN. BAD.");
        SpadeRings x = Check.gang("spade 1;spade 2 right;spade 3 left;spade 4;spade 5 right;spade 6 left;spade 8;spade 9 right;");
        int[] sharp = {1, 2, 3, 4, 5, 6, 8, 9};
        for (int s = 0; s < 8; s++) {
            c.due("sharp", x.spade(s, 0), sharp[s]);
            c.due("for whom", x.spade(s, 1), s % 3);
            c.due("whole", x.spade(s, 2), 0);
            x.breaks(s);
            c.due("broken", x.spade(s, 2), 1);
        }
        int[][] bad = {{-1, 0}, {8, 0}, {9, 2}, {0, -1}, {0, 3}, {7, 3}, {7, -1}, {8, 3}, {Integer.MIN_VALUE, 0},
            {Integer.MAX_VALUE, 0}, {0, Integer.MIN_VALUE}, {0, Integer.MAX_VALUE}};
        for (int[] b : bad) {
            c.due("spade " + b[0] + " " + b[1], x.spade(b[0], b[1]), SpadeRings.BAD);
        }
    }

    private static void ofAYard() {
        c.says("Of a YARD: 0 DEEP, 1 SOIL, 2 clods that are out. BAD.");
        SpadeRings x = Check.gang("yard 1 9;yard 2 8;yard 3 7;yard 4 6;yard 5 5;yard 9 4;yard 10 3;yard 99 1;");
        int[] deep = {1, 2, 3, 4, 5, 9, 10, 99};
        int[] soil = {9, 8, 7, 6, 5, 4, 3, 1};
        for (int y = 0; y < 8; y++) {
            c.due("deep", x.yard(y, 0), deep[y]);
            c.due("soil", x.yard(y, 1), soil[y]);
            c.due("out", x.yard(y, 2), 0);
        }
        int[][] bad = {{-1, 0}, {8, 0}, {9, 2}, {0, -1}, {0, 3}, {7, 3}, {7, -1}, {8, 3}, {Integer.MIN_VALUE, 0},
            {Integer.MAX_VALUE, 0}, {0, Integer.MIN_VALUE}, {0, Integer.MAX_VALUE}};
        for (int[] b : bad) {
            c.due("yard " + b[0] + " " + b[1], x.yard(b[0], b[1]), SpadeRings.BAD);
        }
    }
}
