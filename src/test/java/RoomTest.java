import com.sun.management.ThreadMXBean;
import java.lang.management.ManagementFactory;

/** All calls of a run live in one room: calls make next to nothing, and an object is small. */
public final class RoomTest {
    private static final ThreadMXBean BEAN = (ThreadMXBean) ManagementFactory.getThreadMXBean();
    private static final int CALLS = 512;
    private static long sum = 0;

    public static void main(String[] args) {
        LieKitchen x = Check.with(largest());
        Check.due("claims", x.count(0), 9);
        Check.due("laws", x.count(1), 16);
        Check.due("people", x.count(2), 6);
        Check.row(x, 0, 0, 0, 1, 1, 0);
        everything(x);
        long before = used();
        for (int i = 0; i < CALLS; i++) {
            everything(x);
        }
        long made = used() - before;
        Check.isTrue("bytes made by calls: " + made, made < 100000);
        before = used();
        for (int i = 0; i < CALLS; i++) {
            sum += new LieKitchen().truth();
        }
        made = (used() - before) / CALLS;
        Check.isTrue("bytes of an object: " + made, made < 14000);
        Check.isTrue("sum " + sum, sum != 0);
        Check.finish();
    }

    private static long used() {
        return BEAN.getThreadAllocatedBytes(Thread.currentThread().getId());
    }

    private static String largest() {
        StringBuilder text = new StringBuilder("kitchen;");
        for (int i = 0; i < 9; i++) {
            text.append("claim so cost 9 found 9 owns 9;");
        }
        for (int i = 0; i < 16; i++) {
            text.append("law some ").append(i % 9).append(" not ").append((i + 1) % 9).append(";");
        }
        for (int i = 0; i < 6; i++) {
            text.append("person cost 9 knows ").append(i).append(" ").append(i + 1).append(";");
        }
        return text.append("wants not 0;wants 8;").toString();
    }

    private static void everything(LieKitchen x) {
        sum += x.stories() + x.story(3) + x.told() + x.cheaply() + x.clashed() + x.spread(1) + x.needs(1);
        sum += x.risk(510, 9, 0) + x.safest() + x.owning() + x.spares(0) + x.confessed() + x.apart(0, 1) + x.trusts(0);
        sum += x.caught() + x.knowing(5) + x.fixed(1) + x.judge(0) + x.must(0, 1) + x.lies(0) + x.ask(0) + x.leaves(0);
        sum += x.likely(0, 1) + x.say(1, 0) + x.may(1) + x.forced() + x.still() + x.unsay() + x.mated() + x.quiet(3);
        sum += x.whom() + x.slips(1) + x.naive(1) + x.change(0) + x.drawn(7, 0, 60, 0) + x.luck(7, 20, 0, 60);
        sum += x.keep(1) + x.back(1) + x.row(1, 3, 60) + x.write(1, 59, 1) + x.paste(1, 0, 1, 1, 59);
        sum += x.feed(0x6b697463, 0x68656e20, 0, 0, 0) + x.kitchen() + x.fault(1) + x.end(0);
    }
}
