import com.sun.management.ThreadMXBean;
import java.lang.management.ManagementFactory;
import java.util.function.Function;

/** An object answers 512 calls; and the dearest of them make next to nothing, as all live in one room. */
public final class LastCallsTest {
    private static final Check CHECK = new Check("LastCallsTest");
    /** Bytes of an object with all of its 512 calls: the room has space for a hundred times as many. */
    private static final long MOST_BYTES_MADE = 400_000;

    public static void main(String[] args) {
        lastCalls();
        CHECK.sentence("An object is used for at most 512 calls, all in one room");
        makesLittle("mends", LastCallsTest::dearMends);
        makesLittle("scores", LastCallsTest::dearScores);
        makesLittle("definitions", LastCallsTest::dearDefinitions);
        CHECK.end();
    }

    private static void lastCalls() {
        CHECK.sentence("An object is used for at most 512 calls after it has been made");
        last("letter", told -> told.letter(3), 3);
        last("ending", Told::ending, 1);
        last("term", told -> told.term(1, 2, 3), 2);
        last("neighbour", told -> told.neighbour(0), 1);
        last("define", told -> told.define(0, 0), 2);
        last("know", told -> told.know(0, true), true);
        last("kind", told -> told.kind(1, 0), 1);
        last("about", told -> told.about(1, 4), 4);
        last("write", told -> told.write(0, 0, 0, 0, 0, 0), 24);
        last("cut", told -> told.cut(0, 1), 3);
        last("byteAt", told -> told.byteAt(0, 0), (int) 'P');
        last("uses", told -> told.uses(0), 1);
        last("use", told -> told.use(0, 0, 4), 2);
        last("mend", told -> told.mend(0, 0), true);
        last("mendAll", told -> told.mendAll(0), 1);
        last("count", told -> told.count(1), 1);
        last("ring", told -> told.ring(-1), 2);
        last("fewest", Told::fewest, 1);
        last("crossing", told -> told.crossing(0, 1), 1);
        last("total", told -> told.total(2), 2);
        CHECK.refused("an exception as the last", IllegalArgumentException.class, () -> nearlyDone().uses(8));
    }

    private static void last(String call, Function<Told, Object> asked, Object want) {
        Told told = nearlyDone();
        CHECK.due(call, asked.apply(told), want);
        CHECK.due("it was the last", told.calls(), Told.MOST_CALLS);
    }

    private static Told nearlyDone() {
        Told told = new Told();
        told.ending("s");
        told.term("cat", 0, 0, 0);
        told.term("puss", 0, 1, 0);
        told.text(0, "Puss");
        told.text(1, "cat");
        told.define(0, 2);
        told.define(1, 1);
        told.wait("ed");
        while (told.calls() < Told.MOST_CALLS - 1) {
            told.know(0, true);
        }
        return told;
    }

    /** The second run is measured: the first one has the machine's own beginnings in it. */
    private static void makesLittle(String run, Runnable calls) {
        ThreadMXBean machine = (ThreadMXBean) ManagementFactory.getThreadMXBean();
        long self = Thread.currentThread().getId();
        calls.run();
        long before = machine.getThreadAllocatedBytes(self);
        calls.run();
        long made = machine.getThreadAllocatedBytes(self) - before;
        CHECK.due("little is made by " + run + ": " + made, made < MOST_BYTES_MADE, true);
    }

    private static void dearMends() {
        Told told = new Told();
        for (int i = 0; i < 6; i++) {
            told.ending("a");
        }
        told.term("a", 0, 1, 63);
        for (int i = 1; i < 60; i++) {
            told.term("a", 0, 0, 63);
        }
        told.text(0, "a ".repeat(300));
        while (told.calls() < Told.MOST_CALLS) {
            CHECK.due("mends", told.mendAll(0), 100);
        }
    }

    private static void dearScores() {
        Told told = new Told();
        for (int i = 0; i < 60; i++) {
            told.term("a", i % 40, 0, 0);
        }
        for (int thing = 0; thing < 40; thing++) {
            told.neighbour("a", thing);
            told.neighbour("b", thing);
        }
        told.neighbour("c", 39);
        told.text(0, "a b ".repeat(149) + "a c ");
        while (told.calls() < Told.MOST_CALLS) {
            CHECK.due("uses of the last thing", told.count(39), 150);
        }
    }

    private static void dearDefinitions() {
        Told told = new Told();
        for (int thing = 0; thing < 14; thing++) {
            told.define(thing, (1L << 14) - 1 & ~(1L << thing));
        }
        while (told.calls() < Told.MOST_CALLS - 1) {
            CHECK.due("fewest", told.fewest(), (1L << 13) - 1);
            CHECK.due("ring", told.ring(-1), 2);
        }
    }
}
