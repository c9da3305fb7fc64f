import java.util.ArrayList;
import java.util.List;
import java.util.function.Consumer;
import java.util.function.ToLongFunction;

/**
 * "Refused, and nothing changes": two objects are led alike, then one of them has a refused call
 * more; whatever can be asked of both then is answered alike, and so are calls that go on from there.
 * The same for calls that only ask. No object has more than its 512 calls.
 */
public final class RefusedTest {
    private static final Check c = new Check("RefusedTest");
    private static final int MIN = Integer.MIN_VALUE, MAX = Integer.MAX_VALUE;

    private static final List<String> NAMES = new ArrayList<>();
    private static final List<ToLongFunction<SpadeRings>> CALLS = new ArrayList<>();
    private static final List<Long> DUE = new ArrayList<>();

    public static void main(String[] args) {
        c.says("Refused, and nothing changes");
        ofANewObject();
        ofABusyGang();
        ofAFaultyText();
        ofAllThatIsFull();
        c.says("it is asked, and nothing changes");
        asking();
        c.close();
    }

    // ---- two objects alike

    private static void add(String name, long due, ToLongFunction<SpadeRings> call) {
        NAMES.add(name);
        CALLS.add(call);
        DUE.add(due);
    }

    private static void forget() {
        NAMES.clear();
        CALLS.clear();
        DUE.clear();
    }

    /** Each of the calls by itself, and then all of them in one go. */
    private static void nothingChanges(String where, Consumer<SpadeRings> led) {
        SpadeRings one = new SpadeRings();
        led.accept(one);
        List<Long> want = all(one);
        for (int i = 0; i < CALLS.size(); i++) {
            SpadeRings other = new SpadeRings();
            led.accept(other);
            c.due(where + ": " + NAMES.get(i), CALLS.get(i).applyAsLong(other), DUE.get(i));
            same(where + ", behind " + NAMES.get(i), all(other), want);
        }
        for (int from = 0; from < CALLS.size(); from += 50) {
            SpadeRings other = new SpadeRings();
            led.accept(other);
            for (int i = from; i < Math.min(from + 50, CALLS.size()); i++) {
                c.due(where + ": " + NAMES.get(i), CALLS.get(i).applyAsLong(other), DUE.get(i));
            }
            same(where + ", behind all from " + from, all(other), want);
        }
        forget();
    }

    private static void same(String what, List<Long> got, List<Long> want) {
        for (int i = 0; i < want.size(); i++) {
            c.due(what + ", " + i, got.get(i), want.get(i));
        }
    }

    /** All that can be asked, and then how it goes on; some 300 calls. */
    private static List<Long> all(SpadeRings x) {
        List<Long> answers = new ArrayList<>();
        look(x, answers);
        gangOf(x, answers);
        answers.add(x.trace());
        answers.add((long) x.least());
        for (int image = 0; image <= 1; image++) {
            answers.add((long) x.back(image));
            look(x, answers);
        }
        answers.add((long) x.throwWith(0, 0));
        answers.add((long) x.ends());
        answers.add((long) x.hole(0, 90, 1));
        answers.add((long) x.least());
        answers.add((long) x.tell(9, 1, 1));
        answers.add((long) x.tell(9, 0, 1));
        answers.add((long) x.cheats(0));
        answers.add((long) x.cheats(1));
        answers.add((long) x.type(';', 1));
        answers.add((long) x.gang());
        gangOf(x, answers);
        answers.add((long) x.back(0));
        answers.add((long) x.back(1));
        return answers;
    }

    private static void look(SpadeRings x, List<Long> answers) {
        for (int what = 0; what <= 5; what++) {
            answers.add((long) x.count(what));
            answers.add((long) x.now(what));
            answers.add((long) x.digger(what, 3));
            answers.add((long) x.begins(what));
        }
        for (int i = 0; i < 8; i++) {
            answers.add((long) x.spade(i, 2));
            answers.add((long) x.yard(i, 2));
        }
        answers.add((long) x.longest());
        answers.add((long) x.most(2));
        answers.add((long) x.cheats(0));
        answers.add((long) x.cheats(1));
    }

    private static void gangOf(SpadeRings x, List<Long> answers) {
        for (int i = 0; i < 8; i++) {
            answers.add((long) x.digger(i, 0));
            answers.add((long) x.digger(i, 1));
            answers.add((long) x.digger(i, 2));
            answers.add((long) x.spade(i, 0));
            answers.add((long) x.spade(i, 1));
            answers.add((long) x.yard(i, 0));
            answers.add((long) x.yard(i, 1));
        }
    }

    // ---- the refused calls

    /** Calls that are refused wherever they are asked. */
    private static void refusedAnywhere() {
        for (int n : new int[] {MIN, -1, 0, 9, MAX}) {
            add("type " + n, SpadeRings.BAD, x -> x.type(';', n));
        }
        for (int one : new int[] {MIN, -1, 8, MAX}) {
            add("digger " + one, SpadeRings.BAD, x -> x.digger(one, 0));
            add("digger what " + one, SpadeRings.BAD, x -> x.digger(0, one));
            add("spade " + one, SpadeRings.BAD, x -> x.spade(one, 0));
            add("spade what " + one, SpadeRings.BAD, x -> x.spade(0, one));
            add("yard " + one, SpadeRings.BAD, x -> x.yard(one, 0));
            add("yard what " + one, SpadeRings.BAD, x -> x.yard(0, one));
            add("may d " + one, SpadeRings.BAD, x -> x.may(one, 0));
            add("may s " + one, SpadeRings.BAD, x -> x.may(0, one));
            add("throwWith d " + one, SpadeRings.BAD, x -> x.throwWith(one, 1));
            add("throwWith s " + one, SpadeRings.BAD, x -> x.throwWith(1, one));
            add("breaks " + one, SpadeRings.BAD, x -> x.breaks(one));
            add("now " + one, SpadeRings.BAD, x -> x.now(one));
            add("begins " + one, SpadeRings.BAD, x -> x.begins(one));
            add("most " + one, SpadeRings.BAD, x -> x.most(one));
            add("rings g " + one, SpadeRings.BAD, x -> x.rings(one, 1, 0));
            add("rings what " + one, SpadeRings.BAD, x -> x.rings(1, 1, one));
            add("meeting what " + one, SpadeRings.BAD, x -> x.meeting(1, 1, 1, 1, one));
            add("tell d " + one, SpadeRings.BAD, x -> x.tell(0, one, 0));
            add("tell s " + one, SpadeRings.BAD, x -> x.tell(0, 0, one));
            add("cheats " + one, SpadeRings.BAD, x -> x.cheats(one));
            add("mark kind " + one, SpadeRings.NO, x -> x.mark(one, 0));
            add("mark d " + one, SpadeRings.NO, x -> x.mark(5, one));
            add("keep " + one, SpadeRings.BAD, x -> x.keep(one));
            add("back " + one, SpadeRings.BAD, x -> x.back(one));
            add("count " + one, SpadeRings.BAD, x -> x.count(one));
        }
        for (int one : new int[] {MIN, -1, 0, 100, MAX}) {
            add("meeting a " + one, SpadeRings.BAD, x -> x.meeting(one, 1, 1, 1, 0));
            add("meeting p " + one, SpadeRings.BAD, x -> x.meeting(1, one, 1, 1, 0));
            add("meeting b " + one, SpadeRings.BAD, x -> x.meeting(1, 1, one, 1, 0));
            add("meeting q " + one, SpadeRings.BAD, x -> x.meeting(1, 1, 1, one, 0));
            add("songs p " + one, SpadeRings.BAD, x -> x.songs(one, 0, 1, 0));
            add("songs q " + one, SpadeRings.BAD, x -> x.songs(1, 0, one, 0));
            add("night " + one, SpadeRings.BAD, x -> x.night(one));
            add("hole c " + one, SpadeRings.BAD, x -> x.hole(0, one, 100));
        }
        for (int one : new int[] {MIN, -1, 100, MAX}) {
            add("hole t " + one, SpadeRings.BAD, x -> x.hole(one, 1, 150));
            add("tell r " + one, SpadeRings.BAD, x -> x.tell(one, 0, 0));
        }
        for (int one : new int[] {MIN, 49, 201, MAX}) {
            add("hole u " + one, SpadeRings.BAD, x -> x.hole(50, 1, one));
        }
        for (int one : new int[] {MIN, -1, 1000, MAX}) {
            add("songs a " + one, SpadeRings.BAD, x -> x.songs(1, one, 1, 0));
            add("songs b " + one, SpadeRings.BAD, x -> x.songs(1, 0, 1, one));
        }
        for (int one : new int[] {MIN, -1, 0, 1000, MAX}) {
            add("rings t " + one, SpadeRings.BAD, x -> x.rings(1, one, 0));
        }
    }

    private static void ofANewObject() {
        refusedAnywhere();
        for (int image = 0; image <= 1; image++) {
            int one = image;
            add("back " + image, SpadeRings.STATE, x -> x.back(one));
        }
        add("digger 0", SpadeRings.BAD, x -> x.digger(0, 0));
        add("spade 0", SpadeRings.BAD, x -> x.spade(0, 0));
        add("yard 0", SpadeRings.BAD, x -> x.yard(0, 0));
        add("may 0 0", SpadeRings.BAD, x -> x.may(0, 0));
        add("throwWith 0 0", SpadeRings.BAD, x -> x.throwWith(0, 0));
        add("breaks 0", SpadeRings.BAD, x -> x.breaks(0));
        add("begins 0", SpadeRings.BAD, x -> x.begins(0));
        add("rings 1", SpadeRings.BAD, x -> x.rings(3, 999, 1));
        add("tell 0 0 0", SpadeRings.BAD, x -> x.tell(0, 0, 0));
        add("mark 0 0", SpadeRings.NO, x -> x.mark(0, 0));
        nothingChanges("a new object", x -> { });
    }

    /** In round 1: diggers 0 and 1 threw in it, spade 3 is broken, image 1 alone is kept. */
    private static void busyGang(SpadeRings x) {
        Check.write(x, "digger 5 4;digger 3 2 left;digger 9 9;spade 9;spade 8;spade 7 left;spade 6;yard 30 2;yard 99 1;");
        x.gang();
        x.throwWith(0, 0);
        x.throwWith(1, 2);
        x.ends();
        x.keep(1);
        x.throwWith(0, 1);
        x.throwWith(1, 0);
        x.breaks(3);
        x.tell(0, 0, 0);
        x.tell(0, 1, 2);
        x.tell(1, 0, 1);
        x.hole(3, 20, 9);
        x.mark(1, 0);
        Check.write(x, "digger 8 7 left;spade 2 right");
    }

    private static void ofABusyGang() {
        refusedAnywhere();
        add("back 0", SpadeRings.STATE, x -> x.back(0));
        add("threw with it", SpadeRings.STATE, x -> x.throwWith(0, 0));
        add("threw in this round", SpadeRings.STATE, x -> x.throwWith(1, 1));
        add("thrown with in this round", SpadeRings.STATE, x -> x.throwWith(2, 0));
        add("thrown with in this round", SpadeRings.STATE, x -> x.throwWith(2, 1));
        add("of the other hand", SpadeRings.STATE, x -> x.throwWith(2, 2));
        add("broken", SpadeRings.STATE, x -> x.throwWith(2, 3));
        add("broken already", 0, x -> x.breaks(3));
        add("digger 3", SpadeRings.BAD, x -> x.digger(3, 0));
        add("spade 4", SpadeRings.BAD, x -> x.spade(4, 0));
        add("yard 2", SpadeRings.BAD, x -> x.yard(2, 0));
        add("may 3 0", SpadeRings.BAD, x -> x.may(3, 0));
        add("may 0 4", SpadeRings.BAD, x -> x.may(0, 4));
        add("throwWith 3 3", SpadeRings.BAD, x -> x.throwWith(3, 3));
        add("throwWith 2 4", SpadeRings.BAD, x -> x.throwWith(2, 4));
        add("breaks 4", SpadeRings.BAD, x -> x.breaks(4));
        add("begins 3", SpadeRings.BAD, x -> x.begins(3));
        add("rings 4", SpadeRings.BAD, x -> x.rings(3, 999, 4));
        add("tell 0 3 0", SpadeRings.BAD, x -> x.tell(0, 3, 0));
        add("tell 0 0 4", SpadeRings.BAD, x -> x.tell(0, 0, 4));
        add("mark 0 3", SpadeRings.NO, x -> x.mark(0, 3));
        add("a text that ends too early", -10 - 29, x -> x.gang());
        nothingChanges("a busy gang", RefusedTest::busyGang);
    }

    /** Faults of each sort, each in a text of its own behind the busy gang. */
    private static void ofAFaultyText() {
        String[] texts = {"|?", "|;", "|digge 1 1;", "digger |0 1;", "digger 1 |10;", "digger 1 1 |right;", "spade |100;",
            "yard |01 1;", "yard 1 1|", "digger1 1;spade1;yard1 1;|x", "digger1 1;digger1 1;digger1 1;digger1 1;digger1 1;digger1 1;|digger1 1;",
            "spade1;spade1;spade1;spade1;spade1;spade1;spade1;spade1;|spade1;",
            "yard1 1;yard1 1;yard1 1;yard1 1;yard1 1;yard1 1;yard1 1;yard1 1;|yard1 1;"};
        for (String barred : texts) {
            int place = barred.indexOf('|');
            add("gang", -10 - place, x -> x.gang());
            nothingChanges("'" + barred + "'", x -> {
                busyGang(x);
                x.clear();
                Check.write(x, barred.substring(0, place) + barred.substring(place + 1));
            });
        }
    }

    private static void fullOfAll(SpadeRings x) {
        Check.write(x, Check.fullGang());
        x.gang();
        for (int d = 0; d < 6; d++) {
            x.throwWith(d, d);
        }
        x.ends();
        x.keep(0);
        x.throwWith(5, 7);
        x.keep(1);
        for (int i = 0; i < 8; i++) {
            x.hole(i, 2, 20);
        }
        for (int i = 0; i < 30; i++) {
            x.tell(i, i % 6, i / 6);
        }
        Check.write(x, " ".repeat(291) + "spade 5; ");
    }

    private static void ofAllThatIsFull() {
        refusedAnywhere();
        for (int n = 1; n <= 8; n++) {
            int one = n;
            add("type " + n, SpadeRings.FULL, x -> x.type(Check.packed("spade 1;"), one));
        }
        add("hole", SpadeRings.FULL, x -> x.hole(0, 99, 0));
        add("hole", SpadeRings.FULL, x -> x.hole(99, 1, 200));
        add("tell", SpadeRings.FULL, x -> x.tell(0, 0, 0));
        add("tell", SpadeRings.FULL, x -> x.tell(99, 5, 7));
        add("digger 6", SpadeRings.BAD, x -> x.digger(6, 0));
        add("may 6 0", SpadeRings.BAD, x -> x.may(6, 0));
        add("throwWith 6 6", SpadeRings.BAD, x -> x.throwWith(6, 6));
        add("begins 6", SpadeRings.BAD, x -> x.begins(6));
        add("rings 7", SpadeRings.BAD, x -> x.rings(3, 999, 7));
        add("tell 0 6 0", SpadeRings.BAD, x -> x.tell(0, 6, 0));
        add("mark 5 6", SpadeRings.NO, x -> x.mark(5, 6));
        add("threw with it", SpadeRings.STATE, x -> x.throwWith(0, 0));
        add("threw in this round", SpadeRings.STATE, x -> x.throwWith(5, 0));
        add("thrown with in this round", SpadeRings.STATE, x -> x.throwWith(0, 7));
        nothingChanges("all that is full", RefusedTest::fullOfAll);
    }

    // ---- calls that only ask

    private static void asking() {
        add("digger", 1, x -> x.digger(0, 3) & 1);
        add("spade", 1, x -> x.spade(3, 2));
        add("yard", 2, x -> x.yard(0, 1));
        add("may", 1, x -> x.may(2, 0));
        add("may", 0, x -> x.may(2, 2));
        add("now", 1, x -> x.now(0));
        add("longest", 0, x -> x.longest());
        add("begins", SpadeRings.NONE, x -> x.begins(2));
        add("most 1", 9 * 9 + 3 * 8, x -> x.most(1));
        add("most 6", 9 * 9 + 9 * 8 + 3 * 8, x -> x.most(6));
        add("rings", 111 * 17, x -> x.rings(1, 999, 0));
        add("rings", 7, x -> x.rings(1, 999, 2));
        add("meeting", 158, x -> x.meeting(1, 1, 1, 99, 0));
        add("songs", 0, x -> x.songs(1, 0, 1, 0));
        add("night", 1, x -> x.night(99));
        add("least", 4, x -> x.least());
        add("cheats", 0, x -> x.cheats(0));
        add("false", 0, x -> x.cheats(1));
        for (int what = 0; what <= 5; what++) {
            int one = what;
            int[] due = {3, 4, 2, 1, 3, 29};
            add("count " + what, due[what], x -> x.count(one));
        }
        add("trace", 11, x -> x.trace());
        nothingChanges("asking", RefusedTest::busyGang);
    }
}
