/** Promises 6 and 7: used, stock. */
public final class UsedAndStockTest {
    private static final int LOW = Integer.MIN_VALUE;
    private static final int HIGH = Integer.MAX_VALUE;
    private static final String HOUSE = """
        place 0 0 0 = 0
        person 1 0 100000 = 0
        part 0 0 0 50 100 10 = 0
        part 0 0 0 50 1 10 = 1
        """;

    public static void main(String[] args) {
        hoursAddUp();
        daysDoNotGoBack();
        aTestBeginsAnew();
        stockAddsUp();
        Run.end();
    }

    private static void hoursAddUp() {
        Run.of("used", 1).play(HOUSE)
            .each("used ? 1 1", "argument", -1, 2, 40, LOW, HIGH)
            .each("used 0 ? 1", "argument", -1, 100001, LOW, HIGH)
            .each("used 0 1 ?", "argument", -1, 0, 1001, LOW, HIGH)
            .play("""
                used 0 0 1 = 1
                used 0 0 98 = 99
                due 0 = 50
                used 0 7 1 = 100        # as many as its hours: due
                due 0 = 7
                used 0 9 1000 = 1100    # the first such day stays
                due 0 = 7
                used 0 100000 1 = 1101
                due 0 = 7
                due 1 = 50              # of its own only
                used 1 0 1000 = 1000
                due 1 = 0
                """);
    }

    private static void daysDoNotGoBack() {
        Run.of("used, days", 1).play(HOUSE).play("""
            used 0 10 5 = 5
            used 0 9 5 = argument
            used 0 10 5 = 10
            used 0 11 5 = 15
            used 0 10 5 = argument
            used 1 9 5 = 5
            used 0 20 1001 = argument   # changes nothing, not the day either
            used 0 11 5 = 20
            """);
        Run.of("used behind the days of EVERY", 1).play(HOUSE).play("""
            used 0 50 100 = 100
            due 0 = 50
            """);
        Run.of("used one day later", 1).play(HOUSE).play("""
            used 0 51 100 = 100
            due 0 = 50
            """);
        Run.of("used one day before", 1).play(HOUSE).play("""
            used 0 49 100 = 100
            due 0 = 49
            """);
    }

    private static void aTestBeginsAnew() {
        Run.of("used, tested", 1).play(HOUSE).play("""
            stock 0 9 = 9
            used 0 60 150 = 150
            tour 0 70 = 2
            done = 0
            due 0 = 120
            used 0 69 1 = argument
            used 0 70 99 = 99
            due 0 = 120
            used 0 80 1 = 100
            due 0 = 80
            """);
        Run.of("used, tested on a day before it", 1).play(HOUSE).play("""
            stock 0 9 = 9
            used 0 60 150 = 150
            tour 0 55 = 2
            done = 0
            due 0 = 105
            used 0 54 1 = argument
            used 0 55 1 = 1
            """);
    }

    private static void stockAddsUp() {
        Run.of("stock", 1)
            .each("stock ? 1", "argument", -1, 5, LOW, HIGH)
            .each("stock 0 ?", "argument", -1, 0, 1001, LOW, HIGH)
            .play("""
                stock 0 1 = 1
                stock 4 1000 = 1000
                stock 4 1000 = 2000
                stock 0 2 = 3
                stock 2 7 = 7
                stock 1 1 = 1
                stock 3 1 = 1
                stock 0 1001 = argument
                stock 0 1 = 4
                """);
    }
}
