import com.sun.management.ThreadMXBean;
import java.lang.management.ManagementFactory;

/** The dearest calls, 512 of them, make next to nothing beside the object; and all calls come to an end. */
public final class RoomTest {
    private static final String DEAREST = "word a;word b loud 1;word c loud 2;word d loud 3;word e loud 4;word f loud 5;word g loud 6;word h loud 7;"
        + "cliff w at 0 snow 1;cliff x at 30 snow 2;cliff y at 60 snow 3;cliff z at 99 snow 4;man m at 20 voice 3;man o at 70;"
        + "state s;state t;state u;state v;state w;state x yes;on s a to t;on t b to u;on u c to v;on v d to w;on w h to x;"
        + "on s h to s;on t g to s;on u g to s;back 1+long-1+far*0+blows*0+snow*0+long*0+far*0+blows*0+snow*0;"
        + "lost 0=1 or loud*0+behind*0+chance*0+far*0+blows*0+snow*0+long*0+far*0+blows*0+snow*0=2;turn far>25;";

    public static void main(String[] args) {
        Due due = new Due();
        ThreadMXBean threads = (ThreadMXBean) ManagementFactory.getThreadMXBean();
        // The first object loads classes, which is not to be counted.
        Due.tell(new CliffJudges(), DEAREST);
        long ahead = threads.getCurrentThreadAllocatedBytes();
        CliffJudges x = new CliffJudges();
        long made = threads.getCurrentThreadAllocatedBytes() - ahead;
        due.yes("an object takes " + made + " bytes", made < 64 * 1024);
        due.same("hills", Due.tell(x, DEAREST), 4);
        for (int i = 0; i < 10; i++) {
            x.say(0, 1);
        }
        ahead = threads.getCurrentThreadAllocatedBytes();
        int calls = 0;
        for (int round = 0; calls < 470; round++) {
            x.pardon(round % 2);
            x.pardons(round % 2, 5);
            x.ahead(0, 2, 5);
            x.rhyme(round % 2);
            x.yeas(3, 0);
            x.luck(0);
            x.ask(0, 0);
            x.stood(0, 0);
            x.sound(round % 4, 9, 3);
            x.noon();
            x.undo();
            x.joined(0, 1);
            x.way(5);
            calls += 13;
        }
        long used = threads.getCurrentThreadAllocatedBytes() - ahead;
        due.yes(calls + " calls take " + used + " bytes", used < 16 * 1024);
        due.close();
    }
}
