/** Promise 13: done. */
public final class DoneTest {
    private static final String HOUSE = """
        place 0 0 0 = 0
        place 0 10 0 = 1
        part 0 0 0 10 20 5 = 0
        part 1 0 1 12 20 5 = 1
        person 1 0 100000 = 0
        """;

    public static void main(String[] args) {
        noTour();
        noSpareThing();
        testedOnTheDay();
        testedOnADayBefore();
        Run.end();
    }

    private static void noTour() {
        Run.of("done, no tour", 1).play(HOUSE).play("""
            done = state
            stock 0 1 = 1
            done = state
            tour 0 0 = 0
            done = state
            """);
    }

    private static void noSpareThing() {
        Run.of("done, no spare thing", 1).play(HOUSE).play("""
            stock 1 5 = 5
            used 0 3 4 = 4
            tour 0 12 = 2
            done = -2
            done = -2
            told 3 = 0
            due 0 = 10
            used 0 3 1 = 5
            stock 1 1 = 6
            stock 0 1 = 1
            done = 0
            told 3 = 1
            stock 0 1 = 1           # it took the one that there was
            done = 1
            stock 1 1 = 6
            told 3 = 2
            done = state
            stock 0 1 = 2
            """).stops(0, 1);
    }

    private static void testedOnTheDay() {
        Run.of("done, tested", 1).play(HOUSE).play("""
            stock 0 9 = 9
            stock 1 9 = 9
            used 0 15 20 = 20
            used 1 7 20 = 20
            due 0 = 10
            due 1 = 7
            tour 0 30 = 2
            done = 0
            due 0 = 40
            due 1 = 7
            done = 1
            due 1 = 42
            used 0 30 19 = 19
            due 0 = 40
            used 0 33 1 = 20
            due 0 = 33
            tour 0 39 = 1
            """).stops(0).play("""
            told 1 = 0
            told 2 = 5
            told 3 = 0
            done = 0
            due 0 = 49
            tour 0 100000 = 2
            done = 0
            due 0 = 100010
            late 0 = 1
            late 1 = 0
            """);
    }

    private static void testedOnADayBefore() {
        Run.of("done, on a day before", 1).play(HOUSE).play("""
            stock 0 9 = 9
            tour 0 50 = 2
            done = 0
            due 0 = 60
            used 0 55 3 = 3
            tour 0 20 = 1
            put 0 = 0
            done = 0
            due 0 = 30
            used 0 19 1 = argument
            used 0 20 1 = 1
            """);
    }
}
