/**
 * Diggers, spades and yards, told by a text, with throws, plans, nights, cheats, kinds and images.
 * What each call answers stands in ../shared/DOC.md, promise by promise.
 *
 * Every row is made with the object and used again by each call: a call makes nothing new.
 */
public final class SpadeRings {
    public static final int BAD = -1, STATE = -2, FULL = -3, NONE = -9;
    public static final int NO = -1000000;

    private static final int MOST_DIGGERS = 6;
    private static final int MOST_SPADES = 8;
    private static final int MOST_YARDS = 8;
    private static final int MOST_BYTES = 300;
    private static final int MOST_HOLES = 8;
    private static final int MOST_TOLD = 30;
    private static final int MOST_IMAGES = 2;
    private static final int NO_FAULT = -1;
    private static final int LAST_ROUND_TOLD = 99;

    private final Script script;
    private Gang crew;
    /** A text is read into this one, so that a fault in it leaves the crew as it was. */
    private Gang draft;
    private final Now present;
    private final Now[] images;
    /** Which images were kept, as bits. */
    private int kept;
    private final Follow follow;
    private final Harvest harvest;
    private final Parting parting;
    private final Meeting encounter;
    private final Holes holes;
    private final Told told;
    private long traced;

    public SpadeRings() {
        script = new Script();
        crew = new Gang();
        draft = new Gang();
        present = new Now();
        images = new Now[MOST_IMAGES];
        for (int i = 0; i < images.length; i++) {
            images[i] = new Now();
        }
        follow = new Follow();
        harvest = new Harvest();
        parting = new Parting();
        encounter = new Meeting();
        holes = new Holes();
        told = new Told();
    }

    // ---- the gang

    public int type(long v, int n) {
        if (!within(n, 1, 8)) {
            return BAD;
        }
        if (!script.hasRoomFor(n)) {
            return FULL;
        }
        script.append(v, n);
        return script.length;
    }

    public int clear() {
        return script.wipe();
    }

    public int gang() {
        int fault = script.readInto(draft);
        if (fault != NO_FAULT) {
            return -10 - fault;
        }
        Gang former = crew;
        crew = draft;
        draft = former;
        script.wipe();
        present.reset();
        told.forget();
        kept = 0;
        return crew.diggers + crew.spades + crew.yards;
    }

    public int digger(int d, int what) {
        if (!crew.hasDigger(d)) {
            return BAD;
        }
        switch (what) {
            case 0: return cell(crew.strength, d);
            case 1: return cell(crew.pace, d);
            case 2: return cell(crew.hand, d);
            case 3: return cell(present.threw, d);
            default: return BAD;
        }
    }

    public int spade(int s, int what) {
        if (!crew.hasSpade(s)) {
            return BAD;
        }
        switch (what) {
            case 0: return cell(crew.sharp, s);
            case 1: return cell(crew.whom, s);
            case 2: return asNumber(hasBit(present.broken, s));
            default: return BAD;
        }
    }

    public int yard(int y, int what) {
        if (!crew.hasYard(y)) {
            return BAD;
        }
        switch (what) {
            case 0: return cell(crew.deep, y);
            case 1: return cell(crew.soil, y);
            case 2: return cell(present.out, y);
            default: return BAD;
        }
    }

    // ---- rounds

    public int may(int d, int s) {
        if (!crew.hasDigger(d) || !crew.hasSpade(s)) {
            return BAD;
        }
        return asNumber(present.allows(crew, d, s));
    }

    public int throwWith(int d, int s) {
        if (!crew.hasDigger(d) || !crew.hasSpade(s)) {
            return BAD;
        }
        if (!present.canThrow(crew, d, s)) {
            return STATE;
        }
        int earth = present.earthOf(crew, d, s);
        present.noteThrow(d, s);
        present.dig(crew, earth);
        return earth;
    }

    public int ends() {
        return present.endRound(crew);
    }

    public int breaks(int s) {
        if (!crew.hasSpade(s)) {
            return BAD;
        }
        if (hasBit(present.broken, s)) {
            return 0;
        }
        present.broken |= 1 << s;
        return 1;
    }

    public int now(int what) {
        switch (what) {
            case 0: return present.round;
            case 1: return present.beats;
            case 2: return present.allEarth;
            case 3: return present.yardDug;
            case 4: return present.whoInRound;
            case 5: return present.spadesInRound;
            default: return BAD;
        }
    }

    public int anew() {
        int round = present.round;
        present.reset();
        return round;
    }

    // ---- what can be

    public int longest() {
        follow.work(crew, present);
        return follow.rounds;
    }

    public int begins(int d) {
        if (!crew.hasDigger(d)) {
            return BAD;
        }
        follow.work(crew, present);
        return follow.rounds == 0 ? NONE : cell(follow.row, d);
    }

    public int most(int r) {
        return within(r, 1, 6) ? harvest.greatest(crew, present, r) : BAD;
    }

    public int rings(int g, int t, int what) {
        if (!within(g, 1, 3) || !within(t, 1, 999) || !within(what, 0, crew.diggers)) {
            return BAD;
        }
        parting.part(crew, g, t);
        return what == 0 ? parting.best : parting.ringOf(what - 1);
    }

    public int meeting(int a, int p, int b, int q, int what) {
        boolean asTold = within(a, 1, 99) && within(p, 1, 99) && within(b, 1, 99) && within(q, 1, 99);
        if (!asTold || !within(what, 0, 2)) {
            return BAD;
        }
        if (crew.yards == 0) {
            return NONE;
        }
        encounter.hold(crew, a, p, b, q);
        switch (what) {
            case 0: return encounter.beat;
            case 1: return encounter.place;
            default: return encounter.dugByFirst;
        }
    }

    public int songs(int p, int a, int q, int b) {
        if (!within(p, 1, 99) || !within(a, 0, 999) || !within(q, 1, 99) || !within(b, 0, 999)) {
            return BAD;
        }
        int later = Math.max(a, b);
        int beat = later + Math.floorMod(a - later, p);
        // Behind q songs of p beats the second song stands as it stood: no new beat can come.
        for (int sung = 0; sung < q; sung++) {
            if (remainder(beat - b, q) == 0) {
                return beat;
            }
            beat += p;
        }
        return NONE;
    }

    // ---- nights, cheats

    public int hole(int t, int c, int u) {
        if (!within(t, 0, 99) || !within(c, 1, 99) || !within(u, t, 200)) {
            return BAD;
        }
        return holes.add(t, c, u) ? holes.amount : FULL;
    }

    public int night(int q) {
        return within(q, 1, 99) ? asNumber(holes.leastClods() <= q) : BAD;
    }

    public int least() {
        int clods = holes.leastClods();
        return clods <= 99 ? clods : NONE;
    }

    public int dry() {
        int former = holes.amount;
        holes.amount = 0;
        return former;
    }

    public int tell(int r, int d, int s) {
        if (!within(r, 0, LAST_ROUND_TOLD) || !crew.hasDigger(d) || !crew.hasSpade(s)) {
            return BAD;
        }
        return told.add(r, d, s) ? told.amount : FULL;
    }

    public int cheats(int what) {
        switch (what) {
            case 0: return told.whoThrewTwice();
            case 1: return told.falseRounds();
            default: return BAD;
        }
    }

    // ---- kinds, images

    public int mark(int kind, int d) {
        if (!crew.hasDigger(d)) {
            return NO;
        }
        switch (kind) {
            case 0: return markAsPerson(d);
            case 1: return markAsDigger(d);
            case 2: return markAsSinger(d);
            case 3: return markAsLeft(d);
            case 4: return markAsProphet(d);
            case 5: return markAsSlow(d);
            default: return NO;
        }
    }

    public int keep(int image) {
        Now copy = imageAt(image);
        if (copy == null) {
            return BAD;
        }
        copy.copyFrom(present);
        kept |= 1 << image;
        return present.round;
    }

    public int back(int image) {
        Now copy = imageAt(image);
        if (copy == null) {
            return BAD;
        }
        if (!hasBit(kept, image)) {
            return STATE;
        }
        present.copyFrom(copy);
        return present.round;
    }

    public int count(int what) {
        switch (what) {
            case 0: return crew.diggers;
            case 1: return crew.spades;
            case 2: return crew.yards;
            case 3: return holes.amount;
            case 4: return told.amount;
            case 5: return script.length;
            default: return BAD;
        }
    }

    public long trace() {
        return traced;
    }

    /** Null: there is no such image. */
    private Now imageAt(int image) {
        return image >= 0 && image < images.length ? images[image] : null;
    }

    private int markAsPerson(int d) {
        traced += 1;
        return cell(crew.strength, d);
    }

    private int markAsDigger(int d) {
        traced += 10;
        return markAsPerson(d) + Integer.bitCount(cell(present.threw, d));
    }

    private int markAsSinger(int d) {
        traced += 100;
        return markAsPerson(d) + present.round;
    }

    private int markAsLeft(int d) {
        traced += 1000;
        return markAsDigger(d) * 2;
    }

    private int markAsProphet(int d) {
        traced += 10000;
        return markAsSinger(d) - Integer.bitCount(present.broken);
    }

    private int markAsSlow(int d) {
        traced += 100000;
        return markAsPerson(d) - cell(crew.pace, d);
    }

    // ---- small helps

    private static boolean within(int number, int least, int most) {
        return number >= least && number <= most;
    }

    private static boolean hasBit(int bits, int place) {
        return place >= 0 && place < 32 && (bits >>> place & 1) != 0;
    }

    private static int asNumber(boolean is) {
        return is ? 1 : 0;
    }

    /** What stands in a row; 0 beside it, so that no index is used unseen. */
    private static int cell(int[] row, int place) {
        return place >= 0 && place < row.length ? row[place] : 0;
    }

    private static void put(int[] row, int place, int number) {
        if (place >= 0 && place < row.length) {
            row[place] = number;
        }
    }

    private static void fill(int[] row, int number) {
        for (int i = 0; i < row.length; i++) {
            row[i] = number;
        }
    }

    private static void copy(int[] from, int[] into) {
        for (int i = 0; i < from.length && i < into.length; i++) {
            into[i] = from[i];
        }
    }

    /** Cut to a whole number; 0 by less than 1, so that no divisor is used unseen. */
    private static int quotient(int number, int by) {
        return by < 1 ? 0 : number / by;
    }

    private static int remainder(int number, int by) {
        return by < 1 ? 0 : number % by;
    }

    /** Who and what there is, as a text told it. */
    private static final class Gang {
        int diggers;
        int spades;
        int yards;
        final int[] strength = new int[MOST_DIGGERS];
        final int[] pace = new int[MOST_DIGGERS];
        final int[] hand = new int[MOST_DIGGERS];
        final int[] sharp = new int[MOST_SPADES];
        final int[] whom = new int[MOST_SPADES];
        final int[] deep = new int[MOST_YARDS];
        final int[] soil = new int[MOST_YARDS];

        void empty() {
            diggers = 0;
            spades = 0;
            yards = 0;
        }

        boolean hasDigger(int d) {
            return d >= 0 && d < diggers;
        }

        boolean hasSpade(int s) {
            return s >= 0 && s < spades;
        }

        boolean hasYard(int y) {
            return y >= 0 && y < yards;
        }

        void addDigger(int strong, int beats, boolean left) {
            put(strength, diggers, strong);
            put(pace, diggers, beats);
            put(hand, diggers, asNumber(left));
            diggers++;
        }

        void addSpade(int sharpness, int forWhom) {
            put(sharp, spades, sharpness);
            put(whom, spades, forWhom);
            spades++;
        }

        void addYard(int clods, int kindOfSoil) {
            put(deep, yards, clods);
            put(soil, yards, kindOfSoil);
            yards++;
        }

        boolean suits(int d, int s) {
            int forWhom = cell(whom, s);
            return forWhom == 0 || forWhom == cell(hand, d) + 1;
        }

        int product(int d, int s) {
            return cell(strength, d) * cell(sharp, s);
        }

        int clodsOf(int y) {
            return cell(deep, y) * cell(soil, y);
        }

        int allClods() {
            int sum = 0;
            for (int y = 0; y < yards; y++) {
                sum += clodsOf(y);
            }
            return sum;
        }

        /** The yard of a clod, the clods of all yards counted from 0 on. */
        int yardOfClod(int clod) {
            int behind = 0;
            for (int y = 0; y < yards; y++) {
                behind += clodsOf(y);
                if (clod < behind) {
                    return y;
                }
            }
            return yards - 1;
        }
    }

    /** The text, and how it is read: first cut into tokens, then item by item. */
    private static final class Script {
        /** A token up to 99 is the number itself; these are the others. */
        private static final int END = 100, WRONG = 101, SEMICOLON = 102;
        private static final int DIGGER = 103, SPADE = 104, YARD = 105, RIGHT = 106, LEFT = 107;

        int length;
        private final int[] bytes = new int[MOST_BYTES];
        /** The tokens with their first bytes; the text's end is the last one. */
        private final int[] tokens = new int[MOST_BYTES + 1];
        private final int[] starts = new int[MOST_BYTES + 1];
        /** The token that stands next. */
        private int at;
        /** That token can't stand there: no token is taken from then on. */
        private boolean faulty;

        boolean hasRoomFor(int more) {
            return length + more <= MOST_BYTES;
        }

        void append(long v, int n) {
            for (int lower = n - 1; lower >= 0; lower--) {
                put(bytes, length, (int) (v >>> (8 * lower)) & 255);
                length++;
            }
        }

        int wipe() {
            int former = length;
            length = 0;
            return former;
        }

        /** Reads all items; the place of the fault, or NO_FAULT. */
        int readInto(Gang crew) {
            cutIntoTokens();
            crew.empty();
            at = 0;
            faulty = false;
            for (int item = 0; item < MOST_BYTES && !faulty && cell(tokens, at) != END; item++) {
                readItem(crew);
            }
            return faulty ? cell(starts, at) : NO_FAULT;
        }

        private void readItem(Gang crew) {
            switch (cell(tokens, at)) {
                case DIGGER: readDigger(crew); break;
                case SPADE: readSpade(crew); break;
                case YARD: readYard(crew); break;
                default: faulty = true; break;
            }
        }

        private void readDigger(Gang crew) {
            takeWord(crew.diggers < MOST_DIGGERS);
            int strong = takeNumber(9);
            int beats = takeNumber(9);
            boolean left = takes(LEFT);
            takeSemicolon();
            if (!faulty) {
                crew.addDigger(strong, beats, left);
            }
        }

        private void readSpade(Gang crew) {
            takeWord(crew.spades < MOST_SPADES);
            int sharpness = takeNumber(9);
            int forWhom = takes(RIGHT) ? 1 : takes(LEFT) ? 2 : 0;
            takeSemicolon();
            if (!faulty) {
                crew.addSpade(sharpness, forWhom);
            }
        }

        private void readYard(Gang crew) {
            takeWord(crew.yards < MOST_YARDS);
            int clods = takeNumber(99);
            int kindOfSoil = takeNumber(9);
            takeSemicolon();
            if (!faulty) {
                crew.addYard(clods, kindOfSoil);
            }
        }

        /** The word that begins an item can't stand where there are as many as may be. */
        private void takeWord(boolean hasRoom) {
            if (hasRoom) {
                at++;
            } else {
                faulty = true;
            }
        }

        private int takeNumber(int most) {
            int number = cell(tokens, at);
            if (!within(number, 1, most) || !takes(number)) {
                faulty = true;
            }
            return number;
        }

        private void takeSemicolon() {
            if (!takes(SEMICOLON)) {
                faulty = true;
            }
        }

        private boolean takes(int wanted) {
            if (faulty || cell(tokens, at) != wanted) {
                return false;
            }
            at++;
            return true;
        }

        private void cutIntoTokens() {
            int begin = behindBlanks(0);
            int amount = 0;
            for (; amount < MOST_BYTES && begin < length; amount++) {
                int end = endOfToken(begin);
                put(tokens, amount, tokenOf(begin, end));
                put(starts, amount, begin);
                begin = behindBlanks(end);
            }
            put(tokens, amount, END);
            put(starts, amount, length);
        }

        private int behindBlanks(int from) {
            int place = from;
            while (place < length && cell(bytes, place) == ' ') {
                place++;
            }
            return place;
        }

        private int endOfToken(int begin) {
            int end = begin + 1;
            if (isLetter(cell(bytes, begin))) {
                while (end < length && isLetter(cell(bytes, end))) {
                    end++;
                }
            } else if (isDigit(cell(bytes, begin))) {
                while (end < length && isDigit(cell(bytes, end))) {
                    end++;
                }
            }
            return end;
        }

        private int tokenOf(int begin, int end) {
            int sign = cell(bytes, begin);
            if (isDigit(sign)) {
                return numberOf(begin, end);
            }
            if (isLetter(sign)) {
                return wordOf(begin, end);
            }
            return sign == ';' ? SEMICOLON : WRONG;
        }

        private int numberOf(int begin, int end) {
            int digits = end - begin;
            int number = cell(bytes, begin) - '0';
            if (digits == 1) {
                return number;
            }
            return digits > 2 || number == 0 ? WRONG : number * 10 + cell(bytes, begin + 1) - '0';
        }

        private int wordOf(int begin, int end) {
            if (isWord("digger", begin, end)) {
                return DIGGER;
            }
            if (isWord("spade", begin, end)) {
                return SPADE;
            }
            if (isWord("yard", begin, end)) {
                return YARD;
            }
            if (isWord("right", begin, end)) {
                return RIGHT;
            }
            return isWord("left", begin, end) ? LEFT : WRONG;
        }

        private boolean isWord(String word, int begin, int end) {
            if (end - begin != word.length()) {
                return false;
            }
            for (int i = 0; i < word.length(); i++) {
                if (cell(bytes, begin + i) != word.charAt(i)) {
                    return false;
                }
            }
            return true;
        }

        private static boolean isLetter(int sign) {
            return sign >= 'a' && sign <= 'z';
        }

        private static boolean isDigit(int sign) {
            return sign >= '0' && sign <= '9';
        }
    }

    /** What the document calls NOW; an image is another one of these. */
    private static final class Now {
        int round;
        int beats;
        int allEarth;
        int yardDug;
        int whoInRound;
        int spadesInRound;
        int broken;
        /** Digger by digger, the spades it threw with, as bits. */
        final int[] threw = new int[MOST_DIGGERS];
        /** Yard by yard, the clods that are out. */
        final int[] out = new int[MOST_YARDS];

        void reset() {
            round = 0;
            beats = 0;
            allEarth = 0;
            yardDug = 0;
            whoInRound = 0;
            spadesInRound = 0;
            broken = 0;
            fill(threw, 0);
            fill(out, 0);
        }

        void copyFrom(Now other) {
            round = other.round;
            beats = other.beats;
            allEarth = other.allEarth;
            yardDug = other.yardDug;
            whoInRound = other.whoInRound;
            spadesInRound = other.spadesInRound;
            broken = other.broken;
            copy(other.threw, threw);
            copy(other.out, out);
        }

        boolean allows(Gang crew, int d, int s) {
            return crew.suits(d, s) && !hasBit(broken, s) && !hasBit(cell(threw, d), s);
        }

        boolean canThrow(Gang crew, int d, int s) {
            return allows(crew, d, s) && !hasBit(whoInRound, d) && !hasBit(spadesInRound, s);
        }

        int earthOf(Gang crew, int d, int s) {
            int by = crew.hasYard(yardDug) ? cell(crew.soil, yardDug) : 1;
            return Math.max(1, quotient(crew.product(d, s), by));
        }

        void noteThrow(int d, int s) {
            whoInRound |= 1 << d;
            spadesInRound |= 1 << s;
            put(threw, d, cell(threw, d) | 1 << s);
        }

        void dig(Gang crew, int earth) {
            if (!crew.hasYard(yardDug)) {
                return;
            }
            int before = cell(out, yardDug);
            int after = Math.min(before + earth, cell(crew.deep, yardDug));
            put(out, yardDug, after);
            allEarth += after - before;
            if (after == cell(crew.deep, yardDug)) {
                yardDug++;
            }
        }

        int endRound(Gang crew) {
            int slowest = 0;
            for (int d = 0; d < crew.diggers; d++) {
                if (hasBit(whoInRound, d)) {
                    slowest = Math.max(slowest, cell(crew.pace, d));
                }
            }
            round++;
            beats += slowest;
            whoInRound = 0;
            spadesInRound = 0;
            return slowest;
        }
    }

    /**
     * How many rounds can follow in which each digger throws, and how they begin.
     *
     * Throws that give each digger r of them and no spade more than r can always be laid out in r
     * rounds (a bipartite graph has as many edge colours as its greatest degree). So it is enough
     * to ask whether such throws are there at all, and that is seen set of diggers by set.
     */
    private static final class Follow {
        private static final int ALL_SPADES = (1 << MOST_SPADES) - 1;

        int rounds;
        /** Digger by digger, its spade in the first of the rounds. */
        final int[] row = new int[MOST_DIGGERS];
        private int diggers;
        /** What rounds and row were worked out from: the same is not worked out twice. */
        private long known = -1;
        /** Spade by spade, who may still throw with it, as bits. */
        private final int[] open = new int[MOST_SPADES];

        void work(Gang crew, Now present) {
            long asked = look(crew, present);
            if (asked == known) {
                return;
            }
            known = asked;
            rounds = findRounds();
            if (rounds > 0) {
                place(0, 0);
            }
        }

        private long look(Gang crew, Now present) {
            diggers = Math.min(crew.diggers, MOST_DIGGERS);
            long all = diggers;
            for (int s = 0; s < open.length; s++) {
                int who = 0;
                for (int d = 0; d < diggers; d++) {
                    if (crew.hasSpade(s) && present.allows(crew, d, s)) {
                        who |= 1 << d;
                    }
                }
                open[s] = who;
                all = all << MOST_DIGGERS | who;
            }
            return all;
        }

        private int findRounds() {
            int found = 0;
            for (int more = 1; more <= MOST_SPADES && diggers > 0; more++) {
                if (!fits(more, 0, 0)) {
                    break;
                }
                found = more;
            }
            return found;
        }

        /**
         * Whether open throws are left for all: r for each digger (one less for those of the bits
         * served), no more than r with each spade (one less for those of the bits spent). They are,
         * where no set of diggers needs more of them than the spades can bear from it.
         */
        private boolean fits(int r, int served, int spent) {
            for (int set = 1; set < 1 << diggers; set++) {
                int need = r * Integer.bitCount(set) - Integer.bitCount(set & served);
                if (need > bearable(set, r, spent)) {
                    return false;
                }
            }
            return true;
        }

        private int bearable(int set, int r, int spent) {
            int sum = 0;
            for (int s = 0; s < open.length; s++) {
                int most = r - (spent >>> s & 1);
                sum += Math.min(most, Integer.bitCount(open[s] & set));
            }
            return sum;
        }

        /**
         * Gives digger d and all behind it the first spades that go; used are those of the diggers
         * ahead. It goes no deeper than there are diggers. Behind the last digger no spade can bear
         * more than the rounds that are left.
         */
        private boolean place(int d, int used) {
            if (d >= diggers) {
                return fits(rounds, (1 << d) - 1, ALL_SPADES);
            }
            for (int s = 0; s < open.length; s++) {
                if (hasBit(open[s], d) && !hasBit(used, s) && placeWith(d, s, used | 1 << s)) {
                    return true;
                }
            }
            return false;
        }

        /** What doesn't fit now can't end well, so most rows that fail are left early. */
        private boolean placeWith(int d, int s, int used) {
            int who = cell(open, s);
            put(open, s, who & ~(1 << d));
            put(row, d, s);
            if (fits(rounds, (2 << d) - 1, used) && place(d + 1, used)) {
                return true;
            }
            put(open, s, who);
            return false;
        }
    }

    /**
     * The most that so many rounds can dig: throws of which no digger and no spade has more than
     * there are rounds can be laid out in the rounds (as in Follow), so the dearest such throws are
     * sought, each time by the chain of throws taken and given back that gains most.
     */
    private static final class Harvest {
        private static final int UNREACHED = -1000000;

        private int rounds;
        /** Digger by digger, the spades it may throw with, and those taken, as bits. */
        private final int[] open = new int[MOST_DIGGERS];
        private final int[] taken = new int[MOST_DIGGERS];
        /** How often a spade is taken. */
        private final int[] load = new int[MOST_SPADES];
        private final int[] gainOfDigger = new int[MOST_DIGGERS];
        private final int[] gainOfSpade = new int[MOST_SPADES];
        private final int[] fromSpade = new int[MOST_DIGGERS];
        private final int[] fromDigger = new int[MOST_SPADES];

        int greatest(Gang crew, Now present, int r) {
            rounds = r;
            look(crew, present);
            int sum = 0;
            for (int chain = 0; chain < MOST_DIGGERS * MOST_SPADES; chain++) {
                findChains(crew);
                int last = bestLastSpade();
                if (last < 0) {
                    break;
                }
                sum += cell(gainOfSpade, last);
                follow(last);
            }
            return sum;
        }

        private void look(Gang crew, Now present) {
            for (int d = 0; d < open.length; d++) {
                int with = 0;
                for (int s = 0; s < crew.spades; s++) {
                    if (crew.hasDigger(d) && present.allows(crew, d, s)) {
                        with |= 1 << s;
                    }
                }
                open[d] = with;
            }
            fill(taken, 0);
            fill(load, 0);
        }

        private void findChains(Gang crew) {
            for (int d = 0; d < MOST_DIGGERS; d++) {
                boolean free = Integer.bitCount(cell(taken, d)) < rounds;
                put(gainOfDigger, d, free ? 0 : UNREACHED);
            }
            fill(fromSpade, NONE);
            fill(gainOfSpade, UNREACHED);
            boolean better = true;
            for (int turn = 0; turn < MOST_DIGGERS + MOST_SPADES && better; turn++) {
                better = false;
                for (int d = 0; d < MOST_DIGGERS; d++) {
                    better |= lengthenBy(crew, d);
                }
            }
        }

        private boolean lengthenBy(Gang crew, int d) {
            boolean better = false;
            for (int s = 0; s < MOST_SPADES; s++) {
                if (hasBit(cell(taken, d), s)) {
                    better |= lengthenToDigger(d, s, crew.product(d, s));
                } else if (hasBit(cell(open, d), s)) {
                    better |= lengthenToSpade(d, s, crew.product(d, s));
                }
            }
            return better;
        }

        private boolean lengthenToSpade(int d, int s, int worth) {
            int ahead = cell(gainOfDigger, d);
            if (ahead == UNREACHED || ahead + worth <= cell(gainOfSpade, s)) {
                return false;
            }
            put(gainOfSpade, s, ahead + worth);
            put(fromDigger, s, d);
            return true;
        }

        private boolean lengthenToDigger(int d, int s, int worth) {
            int ahead = cell(gainOfSpade, s);
            if (ahead == UNREACHED || ahead - worth <= cell(gainOfDigger, d)) {
                return false;
            }
            put(gainOfDigger, d, ahead - worth);
            put(fromSpade, d, s);
            return true;
        }

        /** The spade that can bear one more and gains most; NONE, if nothing is gained. */
        private int bestLastSpade() {
            int best = NONE;
            int most = 0;
            for (int s = 0; s < MOST_SPADES; s++) {
                if (cell(load, s) < rounds && cell(gainOfSpade, s) > most) {
                    most = cell(gainOfSpade, s);
                    best = s;
                }
            }
            return best;
        }

        private void follow(int last) {
            put(load, last, cell(load, last) + 1);
            int s = last;
            for (int link = 0; link <= MOST_DIGGERS && s >= 0; link++) {
                int d = cell(fromDigger, s);
                int givenBack = cell(fromSpade, d);
                int spades = cell(taken, d) | 1 << s;
                put(taken, d, givenBack < 0 ? spades : spades & ~(1 << givenBack));
                s = givenBack;
            }
        }
    }

    /** The diggers parted into rings. */
    private static final class Parting {
        int best;
        /** The ring of digger 0, the next one, and what is left; 0 for a ring that isn't there. */
        private int first;
        private int second;
        private int third;
        /** What a ring digs, by the bits of its diggers. */
        private final int[] worth = new int[1 << MOST_DIGGERS];

        void part(Gang crew, int g, int t) {
            int all = (1 << crew.diggers) - 1;
            for (int ring = 0; ring <= all && ring < worth.length; ring++) {
                worth[ring] = weigh(crew, ring, t);
            }
            best = all == 0 ? 0 : -1;
            // Rings are tried from the least bits on, so the first of several best ones stays.
            for (int ring = 1; ring <= all; ring += 2) {
                int rest = all & ~ring;
                if (rest == 0) {
                    offer(ring, 0, 0);
                } else if (g == 2) {
                    offer(ring, rest, 0);
                } else if (g == 3) {
                    partRest(ring, rest);
                }
            }
        }

        private void partRest(int ring, int rest) {
            int lowest = rest & -rest;
            for (int next = lowest; next <= rest; next++) {
                if ((next & ~rest) == 0 && (next & lowest) != 0) {
                    offer(ring, next, rest & ~next);
                }
            }
        }

        private void offer(int one, int two, int three) {
            int sum = cell(worth, one) + cell(worth, two) + cell(worth, three);
            if (sum > best) {
                best = sum;
                first = one;
                second = two;
                third = three;
            }
        }

        private static int weigh(Gang crew, int ring, int t) {
            int slowest = 0;
            int strong = 0;
            for (int d = 0; d < crew.diggers; d++) {
                if (hasBit(ring, d)) {
                    slowest = Math.max(slowest, cell(crew.pace, d));
                    strong += cell(crew.strength, d);
                }
            }
            return quotient(t, slowest) * strong;
        }

        int ringOf(int d) {
            if (hasBit(first, d)) {
                return first;
            }
            return hasBit(second, d) ? second : third;
        }
    }

    /** Two rings that dig all yards from both ends. */
    private static final class Meeting {
        int beat;
        int place;
        int dugByFirst;
        private int a;
        private int p;
        private int b;
        private int q;

        void hold(Gang crew, int clodsOfOne, int beatsOfOne, int clodsOfOther, int beatsOfOther) {
            a = clodsOfOne;
            p = beatsOfOne;
            b = clodsOfOther;
            q = beatsOfOther;
            int all = crew.allClods();
            beat = firstBeatWith(all);
            int byOne = a * quotient(beat - 1, p);
            int byOther = b * quotient(beat - 1, q);
            int left = all - byOne - byOther;
            int stroke = remainder(beat, p) == 0 ? a : 0;
            dugByFirst = byOne + Math.min(stroke, left);
            // The last clod is the one next to where the other stands.
            place = crew.yardOfClod(stroke >= left ? all - byOther - 1 : dugByFirst);
        }

        /** The first beat by which so many clods can be out; at the latest the one digs all. */
        private int firstBeatWith(int clods) {
            int low = 1;
            int high = (quotient(clods, a) + 1) * p;
            for (int half = 0; half < 32 && low < high; half++) {
                int middle = low + (high - low) / 2;
                if (dugBy(middle) >= clods) {
                    high = middle;
                } else {
                    low = middle + 1;
                }
            }
            return low;
        }

        private int dugBy(int atBeat) {
            return a * quotient(atBeat, p) + b * quotient(atBeat, q);
        }
    }

    /** Holes in a dyke. */
    private static final class Holes {
        private static final int NEVER = 1000000;

        int amount;
        private final int[] from = new int[MOST_HOLES];
        private final int[] clods = new int[MOST_HOLES];
        private final int[] until = new int[MOST_HOLES];

        boolean add(int t, int c, int u) {
            if (amount >= MOST_HOLES) {
                return false;
            }
            put(from, amount, t);
            put(clods, amount, c);
            put(until, amount, u);
            amount++;
            return true;
        }

        /**
         * The least clods a beat that close all in time. To fill first what ends first fails only
         * where the holes that begin and end within some beats lose more than those beats bring.
         */
        int leastClods() {
            int needed = 1;
            for (int i = 0; i < amount; i++) {
                for (int j = 0; j < amount; j++) {
                    needed = Math.max(needed, neededWithin(cell(from, i), cell(until, j)));
                }
            }
            return needed;
        }

        private int neededWithin(int begin, int end) {
            int lost = 0;
            for (int k = 0; k < amount; k++) {
                if (cell(from, k) >= begin && cell(until, k) <= end) {
                    lost += cell(clods, k);
                }
            }
            if (lost == 0) {
                return 0;
            }
            int beats = end - begin;
            return beats < 1 ? NEVER : quotient(lost + beats - 1, beats);
        }
    }

    /** What was told of throws. */
    private static final class Told {
        int amount;
        private final int[] rounds = new int[MOST_TOLD];
        private final int[] who = new int[MOST_TOLD];
        private final int[] with = new int[MOST_TOLD];

        void forget() {
            amount = 0;
        }

        boolean add(int r, int d, int s) {
            if (amount >= MOST_TOLD) {
                return false;
            }
            put(rounds, amount, r);
            put(who, amount, d);
            put(with, amount, s);
            amount++;
            return true;
        }

        /** A bit for each digger with each spade. */
        private long pairOf(int i) {
            return 1L << (cell(who, i) * MOST_SPADES + cell(with, i));
        }

        int whoThrewTwice() {
            long seen = 0;
            int cheating = 0;
            for (int i = 0; i < amount; i++) {
                if ((seen & pairOf(i)) != 0) {
                    cheating |= 1 << cell(who, i);
                }
                seen |= pairOf(i);
            }
            return cheating;
        }

        int falseRounds() {
            int found = 0;
            for (int r = 0; r <= LAST_ROUND_TOLD; r++) {
                if (isFalse(r)) {
                    found++;
                }
            }
            return found;
        }

        /** More pairs than people, or than spades: one of them is in two pairs. */
        private boolean isFalse(int r) {
            long pairs = 0;
            int people = 0;
            int spades = 0;
            for (int i = 0; i < amount; i++) {
                if (cell(rounds, i) == r) {
                    pairs |= pairOf(i);
                    people |= 1 << cell(who, i);
                    spades |= 1 << cell(with, i);
                }
            }
            int different = Long.bitCount(pairs);
            return different > Integer.bitCount(people) || different > Integer.bitCount(spades);
        }
    }
}
