/** Promises 14 to 17: due, late, fine, wanted. */
public final class DueTest {
    private static final int LOW = Integer.MIN_VALUE;
    private static final int HIGH = Integer.MAX_VALUE;

    public static void main(String[] args) {
        due();
        late();
        fine();
        wanted();
        Run.end();
    }

    private static void due() {
        Run.of("due", 1).play("""
            place 0 0 0 = 0
            part 0 0 0 1 10 1 = 0
            part 0 0 0 400 10 1 = 1
            due 0 = 1
            due 1 = 400
            used 1 0 9 = 9
            due 1 = 400
            used 1 399 1 = 10
            due 1 = 399
            used 0 0 10 = 10
            due 0 = 0
            """).each("due ?", "argument", -1, 2, 40, LOW, HIGH);
    }

    private static void late() {
        Run.of("late", 1).play("""
            late 0 = -1
            place 0 0 0 = 0
            part 0 0 0 5 10 1 = 0
            part 0 0 0 3 10 1 = 1
            part 0 0 0 5 10 1 = 2
            part 0 0 0 1 10 1 = 3
            part 0 0 0 3 10 1 = 4
            late 0 = 3
            late 1 = 1
            late 2 = 4
            late 3 = 0
            late 4 = 2
            late 5 = -1
            used 2 0 10 = 10
            late 0 = 2
            late 1 = 3
            late 4 = 0
            used 0 3 10 = 10
            late 2 = 0              # alike with 1 and 4
            late 3 = 1
            late 4 = 4
            """)
            .each("late ?", "argument", -1, -2, LOW)
            .each("late ?", "-1", 40, 100, HIGH);
    }

    private static void fine() {
        Run.of("fine", 7).play("""
            place 0 0 0 = 0
            part 0 0 0 100 10 1 = 0
            fine 0 0 = 0
            fine 0 99 = 0
            fine 0 100 = 0
            fine 0 101 = 7
            fine 0 109 = 63
            fine 0 110 = 70
            fine 0 111 = 84
            fine 0 130 = 350
            fine 0 131 = 378
            fine 0 100000 = 1000000
            used 0 50 10 = 10
            fine 0 50 = 0
            fine 0 51 = 7
            """)
            .each("fine ? 0", "argument", -1, 1, 40, LOW, HIGH)
            .each("fine 0 ?", "argument", -1, 100001, LOW, HIGH);
        // Due on day 1: 50 for the first 30 days, then 4 a day of them.
        Run.of("the greatest fine", 1000).play("""
            place 0 0 0 = 0
            part 0 0 0 1 10 1 = 0
            fine 0 31 = 50000
            fine 0 268 = 998000
            fine 0 269 = 1000000
            fine 0 270 = 1000000
            fine 0 100000 = 1000000
            """);
        Run.of("a small fine on the last day", 1).play("""
            place 0 0 0 = 0
            part 0 0 0 1 10 1 = 0
            fine 0 100000 = 399926
            """);
        Run.of("no fine", 0).play("""
            place 0 0 0 = 0
            part 0 0 0 1 10 1 = 0
            fine 0 100000 = 0
            """);
    }

    private static void wanted() {
        Run.of("wanted", 1).play("""
            wanted 0 100000 = 0
            place 0 0 0 = 0
            person 255 0 100000 = 0
            part 0 0 0 5 10 1 = 0
            part 0 7 0 6 10 1 = 1
            part 0 0 0 7 10 1 = 2
            part 0 0 4 5 10 1 = 3
            wanted 0 4 = 0
            wanted 0 5 = 1
            wanted 0 6 = 2
            wanted 0 100000 = 3
            wanted 4 5 = 1
            wanted 1 100000 = 0
            stock 0 1 = 1
            wanted 0 5 = 0
            wanted 0 7 = 2
            wanted 4 7 = 1
            stock 0 5 = 6
            wanted 0 7 = 0
            used 3 2 10 = 10
            wanted 4 2 = 1
            wanted 4 1 = 0
            tour 0 5 = 2
            done = 0
            wanted 0 7 = 0
            stock 4 1 = 1
            done = 3
            wanted 4 9 = 0
            wanted 4 10 = 1
            """)
            .each("wanted ? 0", "argument", -1, 5, LOW, HIGH)
            .each("wanted 0 ?", "argument", -1, 100001, LOW, HIGH);
    }
}
