/** Long runs of calls, always the same ones, on SpadeRings and on Slow: all answers are alike. */
public final class SlowTest {
    private static final int RUNS = 500;
    private static final int CALLS = 150;
    private static final String[] PIECES = {"digger", "spade", "yard", "left", "right", ";", "0", "1", "9", "10", "99",
        "100", "05", " ", "x", "\u00ff", "\u0000", "A"};

    private final Check c = new Check("SlowTest");
    private long seed = 20261119;
    private SpadeRings x;
    private Slow slow;
    private int mostDiggers;
    private int mostSpades;

    public static void main(String[] args) {
        SlowTest test = new SlowTest();
        for (int run = 0; run < RUNS; run++) {
            test.run(run);
        }
        test.c.close();
    }

    private int below(int bound) {
        seed = seed * 6364136223846793005L + 1442695040888963407L;
        return (int) ((seed >>> 33) % bound);
    }

    private int between(int least, int most) {
        return least + below(most - least + 1);
    }

    /** Mostly as told, at times just beside it or far off. */
    private int near(int least, int most) {
        switch (below(40)) {
            case 0: return least - 1;
            case 1: return most + 1;
            case 2: return below(2) == 0 ? Integer.MIN_VALUE : Integer.MAX_VALUE;
            case 3: return least;
            case 4: return most;
            default: return between(least, most);
        }
    }

    private void run(int run) {
        x = new SpadeRings();
        slow = new Slow();
        // What Slow tries for plans grows fast: six diggers get few spades, few diggers get more.
        mostDiggers = between(1, 6);
        mostSpades = mostDiggers <= 2 ? 6 : mostDiggers == 3 ? 5 : 4;
        for (int call = 0; call < CALLS; call++) {
            if (call % 50 == 0) {
                readGang();
            }
            one(run + "." + call);
        }
    }

    private void readGang() {
        StringBuilder text = new StringBuilder();
        int[] left = {mostDiggers, mostSpades, between(0, 4)};
        for (int item = 0; item < 14; item++) {
            int kind = below(3);
            if (left[kind] > 0) {
                left[kind]--;
                text.append(item(kind));
            }
        }
        if (below(5) == 0) {
            longText();
        }
        alike("clear", slow.clear(), x.clear());
        write(text.toString());
        alike("gang of " + text, slow.gang(), x.gang());
    }

    private String item(int kind) {
        String hand = below(2) == 0 ? "" : " left";
        switch (kind) {
            case 0: return "digger " + between(1, 9) + " " + between(1, 9) + hand + ";";
            case 1: return "spade " + between(1, 9) + (below(4) == 0 ? " right" : below(3) == 0 ? " left" : "") + ";";
            default: return "yard " + between(1, 99) + " " + between(1, 9) + "; ";
        }
    }

    private void write(String text) {
        for (int i = 0; i < text.length(); i += 8) {
            String part = text.substring(i, Math.min(i + 8, text.length()));
            long v = Check.packed(part) | (part.length() < 8 ? -1L << 8 * part.length() : 0);
            alike("type", slow.type(v, part.length()), x.type(v, part.length()));
        }
    }

    private void alike(String call, long want, long got) {
        c.due(call, got, want);
    }

    /** A text that is mostly faulty; it never makes a gang that is too large for Slow. */
    private void oddText() {
        StringBuilder text = new StringBuilder();
        int items = between(0, 2);
        for (int i = 0; i < items; i++) {
            text.append(item(below(3)));
        }
        int pieces = below(3) == 0 ? 0 : between(0, 5);
        for (int i = 0; i < pieces; i++) {
            text.insert(below(text.length() + 1), PIECES[below(PIECES.length)]);
        }
        if (below(3) == 0) {
            text.setLength(below(text.length() + 1));
        }
        write(text.toString());
        alike("gang of '" + text + "'", slow.gang(), x.gang());
        alike("text", slow.count(5), x.count(5));
        if (below(2) == 0) {
            alike("clear", slow.clear(), x.clear());
        }
    }

    /** Words of gangs over and over, till the text is full and somewhat on. */
    private void longText() {
        StringBuilder text = new StringBuilder();
        while (text.length() < 280) {
            text.append(item(below(3)));
        }
        write(text.toString());
        for (int i = 0; i < 8; i++) {
            int n = between(1, 8);
            alike("type", slow.type(seed, n), x.type(seed, n));
        }
        alike("gang of '" + text + "'", slow.gang(), x.gang());
        alike("clear", slow.clear(), x.clear());
    }

    private void one(String at) {
        int kind = below(100);
        if (kind < 25) {
            int d = near(0, mostDiggers - 1);
            int s = near(0, mostSpades - 1);
            alike(at + " throwWith " + d + " " + s, slow.throwWith(d, s), x.throwWith(d, s));
        } else if (kind < 45) {
            ofRounds(at, below(7));
        } else if (kind < 65) {
            ofPlans(at, below(7));
        } else if (kind < 85) {
            ofNights(at, below(10));
        } else if (kind < 97) {
            ofKinds(at, below(6));
        } else if (below(2) == 0) {
            oddText();
        } else {
            long v = seed;
            int n = near(1, 8);
            alike(at + " type", slow.type(v, n), x.type(v, n));
        }
    }

    private void ofRounds(String at, int which) {
        int d = near(0, mostDiggers - 1);
        int s = near(0, mostSpades - 1);
        int what = near(0, 3);
        switch (which) {
            case 0: alike(at + " ends", slow.ends(), x.ends()); break;
            case 1: alike(at + " may", slow.may(d, s), x.may(d, s)); break;
            case 2: alike(at + " now", slow.now(what * 2), x.now(what * 2)); break;
            case 3: alike(at + " now", slow.now(what * 2 - 1), x.now(what * 2 - 1)); break;
            case 4: alike(at + " digger", slow.digger(d, what), x.digger(d, what)); break;
            case 5: alike(at + " spade", slow.spade(s, what), x.spade(s, what)); break;
            default: alike(at + " yard", slow.yard(d, what), x.yard(d, what)); break;
        }
        if (which == 0 && below(4) == 0) {
            alike(at + " breaks", slow.breaks(s), x.breaks(s));
        }
        if (which == 0 && below(5) == 0) {
            alike(at + " anew", slow.anew(), x.anew());
        }
    }

    private void ofPlans(String at, int which) {
        switch (which) {
            case 0: alike(at + " longest", slow.longest(), x.longest()); break;
            case 1:
                for (int d = -1; d <= mostDiggers; d++) {
                    alike(at + " begins " + d, slow.begins(d), x.begins(d));
                }
                break;
            case 2:
                int r = mostDiggers * mostSpades > 15 ? near(1, 2) : near(1, 6);
                if (mostDiggers * mostSpades <= 15 || r <= 2 || r > 6) {
                    alike(at + " most " + r, slow.most(r), x.most(r));
                }
                break;
            case 3:
                int g = near(1, 3);
                int t = below(2) == 0 ? near(1, 20) : near(1, 999);
                for (int what = -1; what <= mostDiggers + 1; what++) {
                    alike(at + " rings " + g + " " + t + " " + what, slow.rings(g, t, what), x.rings(g, t, what));
                }
                break;
            case 4: case 5: meetings(at); break;
            default:
                int p = near(1, below(2) == 0 ? 99 : 9);
                int q = near(1, below(2) == 0 ? 99 : 9);
                int a = near(0, 999);
                int b = near(0, 999);
                alike(at + " songs " + p + " " + a + " " + q + " " + b, slow.songs(p, a, q, b), x.songs(p, a, q, b));
                break;
        }
    }

    private void meetings(String at) {
        int a = near(1, 99);
        int p = near(1, below(2) == 0 ? 9 : 99);
        int b = near(1, 99);
        int q = near(1, below(2) == 0 ? 9 : 99);
        for (int what = -1; what <= 3; what++) {
            String call = at + " meeting " + a + " " + p + " " + b + " " + q + " " + what;
            alike(call, slow.meeting(a, p, b, q, what), x.meeting(a, p, b, q, what));
        }
    }

    private void ofNights(String at, int which) {
        switch (which) {
            case 0: case 1: case 2:
                int t = below(3) == 0 ? near(0, 99) : near(0, 9);
                int u = below(3) == 0 ? near(Math.max(t, 0) & 127, 200) : (t & 127) + between(0, 9);
                int c = near(1, below(2) == 0 ? 99 : 20);
                alike(at + " hole " + t + " " + c + " " + u, slow.hole(t, c, u), x.hole(t, c, u));
                break;
            case 3:
                int q = near(1, below(2) == 0 ? 99 : 20);
                alike(at + " night " + q, slow.night(q), x.night(q));
                break;
            case 4: alike(at + " least", slow.least(), x.least()); break;
            case 5:
                if (below(6) == 0) {
                    alike(at + " dry", slow.dry(), x.dry());
                }
                break;
            case 6: case 7:
                int r = near(0, below(20) == 0 ? 99 : 3);
                int d = near(0, mostDiggers - 1);
                int s = near(0, mostSpades - 1);
                alike(at + " tell", slow.tell(r, d, s), x.tell(r, d, s));
                break;
            default:
                int what = near(0, 1);
                alike(at + " cheats", slow.cheats(what), x.cheats(what));
                break;
        }
    }

    private void ofKinds(String at, int which) {
        int image = near(0, 1);
        switch (which) {
            case 0: alike(at + " keep", slow.keep(image), x.keep(image)); break;
            case 1: alike(at + " back", slow.back(image), x.back(image)); break;
            case 2:
                int what = near(0, 5);
                alike(at + " count", slow.count(what), x.count(what));
                break;
            case 3: alike(at + " trace", slow.trace(), x.trace()); break;
            default:
                int kind = near(0, 5);
                int d = near(0, mostDiggers - 1);
                alike(at + " mark " + kind + " " + d, slow.mark(kind, d), x.mark(kind, d));
                break;
        }
    }
}
