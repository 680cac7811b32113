import com.sun.management.ThreadMXBean;
import java.lang.management.ManagementFactory;

/** All calls of one run live in one room: an object takes little of it, and its calls take none. */
public final class RoomTest {
    private static final Check CHECK = new Check("RoomTest");
    private static final ThreadMXBean THREADS = (ThreadMXBean) ManagementFactory.getThreadMXBean();

    public static void main(String[] args) {
        String text = dearTown();
        run(text, new YearHands());
        long id = Thread.currentThread().getId();
        long start = THREADS.getThreadAllocatedBytes(id);
        YearHands x = new YearHands();
        long made = THREADS.getThreadAllocatedBytes(id);
        CHECK.due("an object takes less than 400,000 bytes: " + (made - start), made - start < 400000, true);
        Check.tell(x, text);
        long before = THREADS.getThreadAllocatedBytes(id);
        run(text, x);
        long behind = THREADS.getThreadAllocatedBytes(id);
        CHECK.due("calls take less than 4,000 bytes: " + (behind - before), behind - before < 4000, true);
        CHECK.finish();
    }

    /** Eight PEOPLE, all ages, twenty FRIENDS, six RIGHTS. */
    private static String dearTown() {
        StringBuilder text = new StringBuilder("ages 0 to 150;");
        for (char p = 'a'; p <= 'h'; p++) {
            text.append("person ").append(p).append(" age ").append(70 + p - 'a').append(" coin 999 need 75;");
        }
        int told = 0;
        for (char p = 'a'; p <= 'h'; p++) {
            for (char q = 'a'; q <= 'h' && told < 20; q++) {
                if (p != q && (p + q) % 3 != 0) {
                    text.append("friend ").append(p).append(" to ").append(q).append(" price 1;");
                    told++;
                }
            }
        }
        for (char r = 'a'; r <= 'f'; r++) {
            text.append("right ").append(r).append(" age>149;");
        }
        return text.append("odds age/9;").toString();
    }

    /** Every kind of call, some of them often: fewer than 512 in all. */
    private static void run(String text, YearHands x) {
        x.town();
        for (int i = 0; i < 8; i++) {
            x.target(i, 75);
            x.face(i, 70 + i);
            x.give(i, i + 1, 1);
            x.lend(i, i + 1, 1, 3);
            x.image(i % 3);
            x.cheapest();
            x.barred();
            x.reach(i, i % 6, 0);
            x.net(i);
            x.payments();
            x.ring();
            x.market(i, i);
            x.rests(i, 0);
            x.corner(i, 0);
            x.safest();
            x.bends();
            x.twice(i % 6);
            x.fair(i % 4);
            x.all(i, i % 6);
            x.lies(i);
            x.untell(i);
            x.later(1);
            x.explained(i);
            x.sure(i, i);
            x.forged(i);
            x.person(i, 0);
            x.has(i, 0);
            x.odds(i);
            x.sum(-1);
            x.loan(i, 0);
            x.fault(0);
            x.about(i);
            x.feed(0x64726177, 0x20373b20, 0x20202020, 0x20202020, 0x20202020);
            x.end(0);
            x.undo();
            x.redo();
            x.year();
            x.hush();
        }
        x.back(0);
    }
}
