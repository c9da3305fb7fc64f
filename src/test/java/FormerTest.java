import java.util.ArrayList;
import java.util.List;

/**
 * "THE TEXT tells all", "Read anew": of a gang that was there before nothing is left. An object that had two
 * gangs of all there may be, and was busy with them, is given another gang; it answers as a new object does.
 */
public final class FormerTest {
    private static final Check c = new Check("FormerTest");
    private static final String FULL = "digger 9 9 left;digger 8 9;".repeat(3) + "spade 9;spade 8 left;".repeat(4)
            + "yard 2 1;yard 99 9;".repeat(4);

    public static void main(String[] args) {
        c.says("THE TEXT tells all; read anew: NOW is as at first, nothing is TOLD, IMAGES are gone");
        for (int diggers = 0; diggers <= 6; diggers++) {
            for (int spades = 0; spades <= 8; spades += 2) {
                for (int yards : new int[] {0, 1, 2, 7, 8}) {
                    likeNew(text(diggers, spades, yards));
                }
            }
        }
        meetingInTheYardsThereAre();
        moreDiggersThanSpades();
        c.close();
    }

    private static String text(int diggers, int spades, int yards) {
        StringBuilder text = new StringBuilder();
        for (int i = 1; i <= diggers; i++) {
            text.append("digger ").append(i).append(' ').append(7 - i).append(i % 3 == 0 ? "left;" : ";");
        }
        for (int i = 1; i <= spades; i++) {
            text.append("spade ").append(10 - i).append(i % 4 == 2 ? "right;" : ";");
        }
        for (int i = 1; i <= yards; i++) {
            text.append("yard ").append(3 * i).append(' ').append(i).append(';');
        }
        return text.toString();
    }

    private static void likeNew(String text) {
        List<Long> want = all(Check.gang(text));
        same("behind two gangs: " + text, all(read(busyTwice(), text)), want);
        SpadeRings faulty = busyTwice();
        Check.write(faulty, FULL.substring(0, FULL.length() - 1));
        c.due("a fault", faulty.gang(), -10 - (FULL.length() - 1));
        faulty.clear();
        same("behind a text with a fault: " + text, all(read(faulty, text)), want);
    }

    private static void same(String what, List<Long> got, List<Long> want) {
        for (int i = 0; i < want.size(); i++) {
            c.due(what + ", " + i, got.get(i), want.get(i));
        }
    }

    private static SpadeRings read(SpadeRings x, String text) {
        Check.write(x, text);
        x.gang();
        return x;
    }

    private static SpadeRings busyTwice() {
        SpadeRings x = new SpadeRings();
        for (int time = 0; time < 2; time++) {
            c.due("a full gang", read(x, FULL).count(0), 6);
            for (int d = 0; d < 6; d++) {
                x.throwWith(d, d);
                x.tell(1, d, d);
                x.tell(1, d, 7);
            }
            x.ends();
            x.throwWith(0, 6);
            x.breaks(7);
            x.keep(0);
            x.keep(1);
            x.longest();
            x.most(2);
            x.rings(3, 99, 0);
            x.meeting(1, 1, 1, 1, 0);
        }
        return x;
    }

    /** All that can be asked, and one round; some 300 calls. */
    private static List<Long> all(SpadeRings x) {
        List<Long> answers = new ArrayList<>();
        for (int what = 0; what <= 5; what++) {
            answers.add((long) x.count(what));
        }
        things(x, answers);
        plans(x, answers);
        answers.add((long) x.cheats(0));
        answers.add((long) x.cheats(1));
        answers.add((long) x.back(0));
        answers.add((long) x.back(1));
        for (int i = 0; i < 24; i++) {
            answers.add((long) x.throwWith(i % 6, i * 5 % 8));
        }
        answers.add((long) x.ends());
        things(x, answers);
        answers.add((long) x.longest());
        answers.add((long) x.mark(1, 0));
        answers.add((long) x.mark(4, 0));
        return answers;
    }

    private static void things(SpadeRings x, List<Long> answers) {
        for (int what = 0; what <= 5; what++) {
            answers.add((long) x.now(what));
        }
        for (int i = 0; i < 8; i++) {
            for (int what = 0; what <= 3; what++) {
                answers.add((long) x.digger(i, what));
            }
            for (int what = 0; what <= 2; what++) {
                answers.add((long) x.spade(i, what));
                answers.add((long) x.yard(i, what));
            }
            answers.add((long) x.may(i, i));
        }
    }

    private static void plans(SpadeRings x, List<Long> answers) {
        answers.add((long) x.longest());
        answers.add((long) x.most(1));
        answers.add((long) x.most(6));
        for (int i = 0; i <= 6; i++) {
            answers.add((long) x.begins(i));
            answers.add((long) x.rings(2, 13, i));
            answers.add((long) x.rings(3, 20, i));
        }
        for (int what = 0; what <= 2; what++) {
            answers.add((long) x.meeting(7, 3, 5, 2, what));
            answers.add((long) x.meeting(1, 99, 99, 1, what));
        }
    }

    private static void meetingInTheYardsThereAre() {
        c.says("MEETING: two rings dig all YARDS (those there are now)");
        SpadeRings x = read(busyTwice(), "yard 3 2;");
        c.due("six clods, by one a beat", x.meeting(1, 1, 1, 99, 0), 6);
        c.due("yard", x.meeting(1, 1, 1, 99, 1), 0);
        c.due("all by the first one", x.meeting(1, 1, 1, 99, 2), 6);
        read(x, "");
        c.due("no yards now", x.meeting(1, 1, 1, 99, 0), SpadeRings.NONE);
    }

    private static void moreDiggersThanSpades() {
        c.says("BEATS are more by the greatest PACE of those who threw in it");
        SpadeRings x = read(busyTwice(), "digger 1 1;digger 1 2;digger 1 7;spade 1;");
        c.due("the last of three, with the one spade", x.throwWith(2, 0), 1);
        c.due("its pace", x.ends(), 7);
        c.due("another digger, in the next round", x.throwWith(0, 0), 1);
        c.due("its pace", x.ends(), 1);
    }
}
