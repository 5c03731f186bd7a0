/** Promise 8: walk. */
public final class WalkTest {
    public static void main(String[] args) {
        oneFloor();
        byLifts();
        byTheLeastOfLifts();
        wrongPlaces();
        Run.end();
    }

    private static void oneFloor() {
        Run.of("walk on one floor", 1).play("""
            place 4 0 0 = 0
            place 4 100 100 = 1
            place 4 30 70 = 2
            place 4 30 70 = 3
            walk 0 1 = 200
            walk 1 0 = 200
            walk 1 2 = 100
            walk 2 1 = 100
            walk 2 3 = 0
            walk 2 2 = 0
            lift 30 70 0 30 0 0 = 0
            walk 0 1 = 200
            """);
    }

    private static void byLifts() {
        Run.of("walk by a lift", 1).play("""
            place 2 0 0 = 0
            place 5 10 0 = 1
            place 6 10 0 = 2
            place 1 10 0 = 3
            walk 0 1 = -1
            lift 20 30 2 5 7 11 = 0
            walk 0 1 = 130          # 50 + 7 + 3 * 11 + 40
            walk 1 0 = 130
            walk 0 2 = -1           # the lift ends below
            walk 0 3 = -1           # the lift begins above
            walk 3 3 = 0
            lift 20 30 5 6 0 0 = 1
            walk 1 2 = 80
            walk 0 2 = -1           # no walk by two lifts
            """);
        Run.of("the longest walk", 1).play("""
            place 0 0 0 = 0
            place 30 0 0 = 1
            lift 100 100 0 30 100 100 = 0
            walk 0 1 = 3500
            """);
        Run.of("no wait, no speed", 1).play("""
            place 0 3 3 = 0
            place 30 3 3 = 1
            lift 3 3 0 30 0 0 = 0
            walk 0 1 = 0
            """);
    }

    private static void byTheLeastOfLifts() {
        Run.of("the lift with which it is least", 1).play("""
            place 0 0 0 = 0
            place 2 0 0 = 1
            place 8 0 0 = 2
            lift 10 0 0 30 5 9 = 0
            lift 20 0 0 30 0 1 = 1
            lift 0 0 0 2 100 0 = 2
            lift 0 0 3 9 0 0 = 3
            walk 0 1 = 42            # 43 by the first one, 42 by the second one, 100 by the third
            walk 0 2 = 48
            walk 1 2 = 46
            lift 0 0 0 2 0 20 = 4
            walk 0 1 = 40
            lift 0 0 2 8 1 1 = 5
            walk 1 2 = 7
            walk 2 1 = 7
            """);
    }

    private static void wrongPlaces() {
        Run.of("walk, wrong places", 1)
            .playUp(2, "place 0 0 0", 0)
            .each("walk ? 0", "argument", -1, 2, 30, Integer.MIN_VALUE, Integer.MAX_VALUE)
            .each("walk 0 ?", "argument", -1, 2, 30, Integer.MIN_VALUE, Integer.MAX_VALUE)
            .each("walk ? 1", "0", 0, 1);
    }
}
