import java.util.ArrayList;
import java.util.List;

/**
 * "In all calls illegal argument: a number is out of its bounds, there is no such thing. Illegal
 * state: as told. Of several exceptions the one named first is thrown; a call that throws changes
 * nothing." Each refusal of each call, in several states, with what the object answers afterwards;
 * and the same for calls that only look.
 */
public final class RefusedTest {
    private static final String SOME = """
        place 0 0 0
        place 0 9 0
        place 2 5 5
        place 7 0 0
        lift 1 1 0 3 4 2
        person 3 0 1000
        person 255 2 100000
        part 0 0 0 5 10 10
        part 1 1 1 5 10 20
        part 2 0 4 3 10 30
        part 3 0 0 400 10 40
        part 1 7 2 400 10 50
        part 2 1 1 400 10 60
        stock 0 1
        stock 1 2
        stock 4 3
        used 0 2 4
        used 1 3 12
        used 2 6 10
        """;
    private static final String TOUR = SOME + """
        tour 0 8
        put 5
        done
        """;

    public static void main(String[] args) {
        nothingThereYet();
        noTour();
        tourWithoutStops();
        tourUnderWay();
        noSpareThing();
        allThereMayBe();
        looks();
        Run.end();
    }

    private static List<String> calls(String script) {
        return new ArrayList<>(List.of(script.split("\n")));
    }

    private static void nothingThereYet() {
        Twins twins = new Twins("nothing there yet", List.of());
        numbers(twins, 0, 0, 0, 0);
        twins.unchangedBy("put 0", "argument");      // no tour either: named first
        twins.unchangedBy("done", "state");
    }

    private static void noTour() {
        Twins twins = new Twins("no tour", calls(SOME));
        numbers(twins, 4, 6, 2, 0);
        days(twins);
        for (int part = 0; part < 6; part++) {
            twins.unchangedBy("put " + part, "state");
        }
        twins.unchangedBy("done", "state");
    }

    private static void tourWithoutStops() {
        List<String> before = calls(SOME);
        before.add("tour 0 0");
        Twins twins = new Twins("a tour without stops", before);
        numbers(twins, 4, 6, 2, 0);
        twins.unchangedBy("put 3", "-2");            // no walk to it
        twins.unchangedBy("put 4", "state");         // not its skill
        twins.unchangedBy("done", "state");          // all of its stops are done
    }

    private static void tourUnderWay() {
        Twins twins = new Twins("a tour under way", calls(TOUR));
        numbers(twins, 4, 6, 2, 4);
        days(twins);
        for (int part : new int[] {0, 1, 2, 5}) {
            twins.unchangedBy("put " + part, "state");   // a stop, of which one is done
        }
        twins.unchangedBy("put 3", "-2");
        twins.unchangedBy("put 4", "state");
    }

    private static void noSpareThing() {
        List<String> before = calls(SOME + """
            part 0 0 3 1 1 9
            tour 0 8
            done
            done
            done
            """);
        Twins twins = new Twins("no spare thing", before);
        twins.unchangedBy("stop 3", "6");
        twins.unchangedBy("done", "-2");
        before.addAll(List.of("stock 3 1", "done"));
        twins = new Twins("all stops are done", before);
        twins.unchangedBy("told 3", "4");
        twins.unchangedBy("done", "state");
        numbers(twins, 4, 7, 2, 4);
    }

    private static void allThereMayBe() {
        List<String> before = full();
        Twins twins = new Twins("all there may be", before);
        twins.unchangedBy("told 0", "20");
        numbers(twins, 30, 40, 8, 20);               // argument, though state as well: named first
        twins.unchangedBy("place 0 0 0", "state");
        twins.unchangedBy("lift 0 0 0 0 0 0", "state");
        twins.unchangedBy("part 0 0 0 1 1 1", "state");
        twins.unchangedBy("person 0 0 0", "state");
        for (int part = 0; part < 40; part++) {
            twins.unchangedBy("put " + part, "state");
        }
        before.add("place 0 0 0");                   // refused, so that the tour goes on
        new Twins("all there may be, once more", before).unchangedBy("told 0", "20");
    }

    private static void looks() {
        Twins twins = new Twins("looks at a tour under way", calls(TOUR));
        twins.unchangedBy("walk 0 2", "18");
        twins.unchangedBy("walk 0 3", "-1");
        twins.unchangedBy("stop 2", "5");
        twins.unchangedBy("told 1", "52");
        twins.unchangedBy("due 0", "13");
        twins.unchangedBy("late 2", "0");
        twins.unchangedBy("late 6", "-1");
        twins.unchangedBy("fine 1 9", "42");
        twins.unchangedBy("wanted 1 400", "0");
        twins.unchangedBy("wanted 2 400", "1");
    }

    /** 30 places, 6 lifts, 40 parts (each fourth with another skill), 8 persons, 20 stops. */
    private static List<String> full() {
        List<String> calls = new ArrayList<>();
        for (int i = 0; i < 30; i++) {
            calls.add(Calls.text("place", i % 3, i, 2 * i));
        }
        for (int i = 0; i < 6; i++) {
            calls.add(Calls.text("lift", 10 * i, 5 * i, i % 3, 2 + i, 9 - i, i));
        }
        for (int i = 0; i < 40; i++) {
            calls.add(Calls.text("part", i % 30, i % 4 / 3, i % 5, 1 + i % 9, 3, 4));
        }
        for (int i = 0; i < 8; i++) {
            calls.add(Calls.text("person", 1 + i % 2 * 254, i, 1000 + 1000 * i));
        }
        for (int kind = 0; kind < 5; kind++) {
            calls.add(Calls.text("stock", kind, 2));
        }
        calls.add("tour 6 8");
        for (int part = 0; part < 40; part++) {
            calls.add("put " + part);
        }
        calls.addAll(List.of("done", "done", "done"));
        return calls;
    }

    /** Every number of every call, out of its bounds, where there are so many things. */
    private static void numbers(Twins twins, int places, int parts, int persons, int stops) {
        things(twins, places);
        twins.outOfBounds("used ? 50 1", 0, parts - 1);
        twins.outOfBounds("used 0 ? 1", 0, 100000);
        twins.outOfBounds("used 0 50 ?", 1, 1000);
        twins.outOfBounds("stock ? 1", 0, 4);
        twins.outOfBounds("stock 0 ?", 1, 1000);
        twins.outOfBounds("walk ? 0", 0, places - 1);
        twins.outOfBounds("walk 0 ?", 0, places - 1);
        twins.outOfBounds("tour ? 8", 0, persons - 1);
        twins.outOfBounds("tour 0 ?", 0, 100000);
        twins.outOfBounds("stop ?", 0, stops - 1);
        twins.outOfBounds("told ?", 0, 4);
        twins.outOfBounds("put ?", 0, parts - 1);
        twins.outOfBounds("due ?", 0, parts - 1);
        twins.unchangedBy("late -1", "argument");
        twins.unchangedBy("late " + Integer.MIN_VALUE, "argument");
        twins.outOfBounds("fine ? 8", 0, parts - 1);
        twins.outOfBounds("fine 0 ?", 0, 100000);
        twins.outOfBounds("wanted ? 8", 0, 4);
        twins.outOfBounds("wanted 0 ?", 0, 100000);
    }

    private static void things(Twins twins, int places) {
        twins.outOfBounds("place ? 0 0", 0, 30);
        twins.outOfBounds("place 0 ? 0", 0, 100);
        twins.outOfBounds("place 0 0 ?", 0, 100);
        twins.outOfBounds("lift ? 0 0 1 0 0", 0, 100);
        twins.outOfBounds("lift 0 ? 0 1 0 0", 0, 100);
        twins.outOfBounds("lift 0 0 ? 30 0 0", 0, 30);
        twins.outOfBounds("lift 0 0 0 ? 0 0", 0, 30);
        twins.outOfBounds("lift 0 0 0 1 ? 0", 0, 100);
        twins.outOfBounds("lift 0 0 0 1 0 ?", 0, 100);
        twins.unchangedBy("lift 0 0 2 1 0 0", "argument");
        twins.unchangedBy("lift 0 0 30 0 0 0", "argument");
        twins.unchangedBy("lift 0 0 -1 -1 0 0", "argument");
        twins.unchangedBy("lift 0 0 31 31 0 0", "argument");
        twins.outOfBounds("part ? 0 0 1 1 1", 0, places - 1);
        twins.outOfBounds("part 0 ? 0 1 1 1", 0, 7);
        twins.outOfBounds("part 0 0 ? 1 1 1", 0, 4);
        twins.outOfBounds("part 0 0 0 ? 1 1", 1, 400);
        twins.outOfBounds("part 0 0 0 1 ? 1", 1, 10000);
        twins.outOfBounds("part 0 0 0 1 1 ?", 1, 7200);
        twins.outOfBounds("person ? 0 0", 0, 255);
        twins.outOfBounds("person 0 ? 0", 0, places - 1);
        twins.outOfBounds("person 0 0 ?", 0, 100000);
    }

    /** Part 0 was told to be used on day 2, part 1 on day 3, part 2 on day 6. */
    private static void days(Twins twins) {
        twins.unchangedBy("used 0 1 1", "argument");
        twins.unchangedBy("used 0 0 1000", "argument");
        twins.unchangedBy("used 1 2 1", "argument");
        twins.unchangedBy("used 2 5 1000", "argument");
    }
}
