import com.sun.management.ThreadMXBean;
import java.lang.management.ManagementFactory;

/** All calls of a run live in one room: what an object and its dearest calls make is counted here. */
public final class RoomTest {
    private static final int BYTES_OF_AN_OBJECT = 64 * 1024;
    private static final int BYTES_OF_ALL_CALLS = 16 * 1024;

    private static final String INN = "inn minutes 40;room a creak 3;room b creak 3;room c creak 2;room d creak 2;"
        + "room e creak 9;room f creak 1;door a,b;door b,c;door c,d;door d,e;door e,f;door f,a;door a,c;door b,e;door c,f;"
        + "door d,a falls;thing k in b full;dream x 0 take k then 1;dream x 1 go e then 2;dream x 2 go a then 1 met 3;"
        + "dream y 0 go d then 1;dream y 1 go b then 0;dream z 0 go f then 1;dream z 1 shut e then 2;dream z 2 go c then 0;"
        + "dream u 0 wait then 1;dream u 1 go c then 2;dream u 2 go d then 1;"
        + "sleeper p bed a dreams x;sleeper q bed c dreams y;sleeper r bed f dreams z;listens a;listens d;listens e";

    private static final Check check = new Check();

    public static void main(String[] args) {
        ThreadMXBean threads = (ThreadMXBean) ManagementFactory.getThreadMXBean();
        long id = Thread.currentThread().getId();
        dearest(check.told(INN), 1);

        long before = threads.getThreadAllocatedBytes(id);
        NightInn x = new NightInn();
        long made = threads.getThreadAllocatedBytes(id) - before;
        check.due("an object of " + made + " bytes is small", made < BYTES_OF_AN_OBJECT, true);

        Check.feed(x, INN);
        before = threads.getThreadAllocatedBytes(id);
        int sleepers = x.inn(INN.length());
        dearest(x, 20);
        made = threads.getThreadAllocatedBytes(id) - before;
        check.due("the inn stands", sleepers, 3);
        check.due("calls that make " + made + " bytes make next to nothing", made < BYTES_OF_ALL_CALLS, true);
        check.end();
    }

    private static void dearest(NightInn x, int times) {
        for (int i = 0; i < times; i++) {
            x.noteHeard(i % 2, 0, 1, true);
            x.fits(3);
            x.fit(0, 5, 1);
            x.sure(0);
            x.verdict();
            x.parts(i);
            x.best();
            x.told(0, i);
            x.alike(0, 1);
            x.never();
            x.strike();
            x.safe(4);
            x.walks(3);
            x.nightfall(i);
            x.called(i, 1, 40);
            x.mark();
            x.morning();
            x.back(0);
        }
    }
}
