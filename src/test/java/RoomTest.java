import java.lang.management.ManagementFactory;

/** All calls of one run live in one room: rows are made with the object, and calls make none. */
final class RoomTest {
    private static final int OBJECT_MOST = 500_000;
    private static final int CALLS_MOST = 50_000;

    public static void main(String[] args) {
        // once ahead, so that classes are there
        calls(made());
        long before = bytes();
        RestDays x = made();
        long behind = bytes();
        Checks.yes("bytes of one object: " + (behind - before), behind - before < OBJECT_MOST);
        before = bytes();
        calls(x);
        behind = bytes();
        Checks.yes("bytes of its calls: " + (behind - before), behind - before < CALLS_MOST);
        Checks.finish();
    }

    private static long bytes() {
        return ((com.sun.management.ThreadMXBean) ManagementFactory.getThreadMXBean())
                .getThreadAllocatedBytes(Thread.currentThread().getId());
    }

    private static RestDays made() {
        return Checks.told("week 4 hours 3;thing a 2 to 900;thing b 0 to 50;thing c 7 to 99;"
                + "law k rests 1 if a>0 then a becomes a-1;law l rests 0 if b<5 then b becomes b+1 and a becomes a+b;"
                + "law m rests 2 if c then c becomes (c*5+1)%98;deed x if 1 then a becomes a+3;"
                + "deed y if b then b becomes b/2;deed z if 1 then c becomes c+1;ban n rests 2 if a>800;"
                + "goal a=5 also c=99;gain a*b-c;guild g of k wants a;guild h of l wants c-a;");
    }

    private static void calls(RestDays x) {
        for (int i = 0; i < 10; i++) {
            x.hours(7);
            x.deed(i % 3);
            x.shift(i % 3, i % 4);
            x.leap();
            x.undo();
            x.redo();
            x.image(i % 3);
            x.look(i, i % 3, i);
            x.later(1);
            x.untell(i - 3);
            x.will(0, 300);
            x.round(0);
            x.clash(0, 1);
            x.plan(20);
            x.most(6);
            x.loophole(0, 1);
            x.amend(0, 999, 999, 100);
            x.all(0, 5, 50, 100);
            x.guilds(100);
            x.more(1, 1, 100);
            x.fit(i);
            x.rests(0, i);
            x.ask(60, 1, i);
            x.back(i % 3);
            x.feed(0x676f616c, 0x20313b20, 0, 0, 0);
            x.end(0);
            x.crime(i, 0);
            x.about(i);
            x.says(1);
            x.broken();
        }
        for (int i = 0; i < 3; i++) {
            x.feed(0x676f616c, 0x20313b20, 0x6761696e, 0x20323b20, 0x67757374);
            x.land();
        }
    }
}
