import java.lang.management.ManagementFactory;

/** No call makes objects: all calls of a run share one room. The dearest calls end soon, too. */
public final class RoomTest {
    private static final String FIFTEEN = "points 15;develop 0 5 10;develop 0 1 4;develop 0 2 8;";

    private static long made() {
        return ((com.sun.management.ThreadMXBean) ManagementFactory.getThreadMXBean())
            .getThreadAllocatedBytes(Thread.currentThread().getId());
    }

    private static int round(TripleTrains x) {
        int sum = x.bestSwitch(false) + x.trades(4) + x.subsystems() + x.independent() + x.mostApart();
        sum += x.isComplete() ? x.rounds() + x.tail(0, 1, 2) + x.trainProfile(2) : x.completions();
        sum += x.perfectPairs() + x.cyclesOf(6) + x.orbits() + (x.agrees() ? 1 : 0) + x.tightest();
        sum += x.descend(20) + (x.cycles(0, 1) > 0 ? x.switchCycle(0, 1, 0) : 0) + x.turn(1) + x.swap(0, 1) + x.fill() + x.printAt(0);
        sum += x.saveState() + x.undo() + x.clear(3) + (x.find(0, 1, 2) < 0 ? x.force(0, 1, 2) : 0) + x.restoreState() + x.closure(7);
        sum += x.appendInput(0, 0, 0, 0, 0) + x.loadSystem() + (x.cycles(0, 1) > 0 ? x.wouldHaveBy(0, 1, 0) : 0) + x.count(6);
        return sum;
    }

    public static void main(String[] args) {
        TripleTrains x = Check.loaded(FIFTEEN);
        round(x);
        TripleTrains y = Check.loaded(FIFTEEN);
        long before = made();
        long asked = made() - before;
        before = made();
        int sum = 0;
        for (int i = 0; i < 12; i++) sum += round(y);
        long calls = made() - before - asked;
        Check.due("the calls of a run make nothing, but made " + calls, true, calls < 4096);
        before = made();
        new TripleTrains();
        long object = made() - before - asked;
        Check.due("an object is small, but has " + object, true, object < 40000);
        Check.due("the sum is used", true, sum != 0);
        Check.end();
    }
}
