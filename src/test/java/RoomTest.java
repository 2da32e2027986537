import com.sun.management.ThreadMXBean;
import java.lang.management.ManagementFactory;

/** All calls live in one room: an object is small, and a call makes nothing. */
public final class RoomTest {
    private static final int MOST_FOR_AN_OBJECT = 8000;
    // What the machine itself may put down while it runs the calls for the first times.
    private static final int MOST_FOR_ALL_CALLS = 2000;

    private RoomTest() {
    }

    public static void main(String[] args) {
        ThreadMXBean bean = (ThreadMXBean) ManagementFactory.getThreadMXBean();
        long thread = Thread.currentThread().getId();
        calls(new AloneIsAQuantity());
        long before = bean.getThreadAllocatedBytes(thread);
        long asking = bean.getThreadAllocatedBytes(thread) - before;
        before = bean.getThreadAllocatedBytes(thread);
        AloneIsAQuantity x = new AloneIsAQuantity();
        long object = bean.getThreadAllocatedBytes(thread) - before - asking;
        before = bean.getThreadAllocatedBytes(thread);
        calls(x);
        long all = bean.getThreadAllocatedBytes(thread) - before - asking;
        System.out.println("RoomTest: " + object + " bytes an object, " + all + " for its calls");
        if (object > MOST_FOR_AN_OBJECT || all > MOST_FOR_ALL_CALLS) {
            System.exit(1);
        }
    }

    private static void calls(AloneIsAQuantity x) {
        String text = "pp00010;ps50510;pw01410;pc02099;po33500;pn43000;l0199;l2333;k00500;d03;";
        for (int round = 0; round < 4; round++) {
            for (int i = 0; i < text.length(); i++) {
                x.letter(text.charAt(i));
            }
            x.moor();
        }
        for (int i = 0; i < 6; i++) {
            for (int what = 0; what < 7; what++) {
                x.person(i, what);
            }
            x.owns(i);
            x.go(i, 7 * i);
            x.lend(i, 5 - i, i);
            x.loan(i, 5 - i);
            x.keep(i, 50);
            x.need(i, 50);
            x.behind(i, 99, 0);
            x.behind(i, 99, 1);
            x.lasts(i);
            x.bestCell(i, 0);
            x.bestCell(i, 1);
            x.bestCell(i, 2);
            x.takes(i, 5 - i);
            x.worst(i);
            x.newcomer(i, 0);
            x.help(i, 0);
            x.help(i, 1);
            x.net(i);
            x.survey(i);
            x.quarrel(i, 5 - i, 4, 1);
            x.two(i, 5 - i);
            x.easter(i, 5 - i, 99);
            x.row(i);
        }
        x.whatIs(0, 0);
        x.whatIs(0, 1);
        x.judge(0);
        x.clear();
        for (int what = 0; what < 3; what++) {
            x.firstShort(what);
            x.leaves(what);
            x.loans(what);
            x.crowd(what);
            x.lots(20, what, what);
            x.count(what);
        }
        x.sum(100);
        x.days(5);
        x.enough();
        x.bestSurvey();
        x.raise();
        x.image();
        x.on();
    }
}
