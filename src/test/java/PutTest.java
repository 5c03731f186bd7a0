/** Promise 12: put. */
public final class PutTest {
    public static void main(String[] args) {
        wrongParts();
        whereWalksGrowLeast();
        notBeforeWhatIsDone();
        shorterWalks();
        withoutAWalk();
        secondsDoNotMatter();
        atMostTwentyStops();
        Run.end();
    }

    private static final String LINE = """
        place 0 0 0 = 0
        place 0 10 0 = 1
        place 0 20 0 = 2
        place 0 30 0 = 3
        place 0 20 5 = 4
        part 1 0 0 1 9 1 = 0
        part 3 0 0 1 9 2 = 1
        part 2 0 0 400 9 4 = 2
        part 4 0 0 400 9 8 = 3
        part 0 1 0 400 9 16 = 4
        person 1 0 100000 = 0
        """;

    private static void wrongParts() {
        Run.of("put, no tour", 1).play(LINE)
            .each("put ?", "state", 0, 1, 2, 3, 4)
            .each("put ?", "argument", -1, 5, 40, Integer.MIN_VALUE, Integer.MAX_VALUE);
        Run.of("put, wrong parts", 1).play(LINE).play("""
            tour 0 1 = 2
            put 0 = state
            put 1 = state
            put 4 = state           # another skill
            """)
            .each("put ?", "argument", -1, 5, 40, Integer.MIN_VALUE, Integer.MAX_VALUE)
            .stops(0, 1)
            .play("""
                stock 0 1 = 1
                done = 0
                put 0 = state       # done, but a stop
                told 1 = 60
                told 2 = 3
                """);
    }

    private static void whereWalksGrowLeast() {
        Run.of("put, the least", 1).play(LINE).play("""
            tour 0 1 = 2
            told 1 = 60
            put 3 = 10              # between the stops, or behind them: the first of these
            told 1 = 70
            told 2 = 11
            told 3 = 0
            """).stops(0, 3, 1).play("""
            put 2 = 0
            told 1 = 70
            told 2 = 15
            """).stops(0, 2, 3, 1);
        Run.of("put, before the first", 1).play(LINE).play("""
            part 0 0 0 400 9 1 = 5
            tour 0 1 = 2
            put 5 = 0
            """).stops(5, 0, 1);
        Run.of("put, behind the last", 1).play("""
            place 0 0 0 = 0
            place 0 10 0 = 1
            place 0 10 10 = 2
            place 0 0 10 = 3
            part 1 0 0 1 9 1 = 0
            part 2 0 0 1 9 1 = 1
            part 3 0 0 9 9 1 = 2
            person 1 0 100000 = 0
            tour 0 1 = 2
            put 2 = 0
            told 1 = 40
            """).stops(0, 1, 2);
        Run.of("put, no stops", 1).play(LINE).play("""
            tour 0 0 = 0
            put 3 = 50
            told 1 = 50
            told 2 = 8
            """).stops(3);
    }

    private static void notBeforeWhatIsDone() {
        Run.of("put, stops are done", 1).play(LINE).play("""
            stock 0 9 = 9
            tour 0 1 = 2
            done = 0
            part 0 0 0 400 9 1 = 5
            put 5 = 0               # at home: behind the last one, as the first one is done
            """).stops(0, 1, 5).play("""
            done = 1
            put 2 = 0
            """).stops(0, 1, 2, 5).play("""
            done = 2
            done = 5
            told 3 = 4
            put 3 = 50              # all are done: behind the last one
            told 3 = 4
            done = 3
            done = state
            """).stops(0, 1, 2, 5, 3);
        Run.of("put, of several places behind what is done", 1).play(LINE).play("""
            stock 0 9 = 9
            tour 0 1 = 2
            done = 0
            put 2 = 0
            """).stops(0, 2, 1);
    }

    private static void shorterWalks() {
        // From floor 0 to 2 the lift waits long; by a part of floor 1 there are two quick lifts.
        String floors = """
            place 0 0 0 = 0
            place 2 0 0 = 1
            place 1 0 0 = 2
            part 1 0 0 1 9 1 = 0
            part 2 0 0 9 9 1 = 1
            part 2 0 0 9 9 1 = 2
            person 1 0 100000 = 0
            lift 0 0 0 1 1 0 = 0
            lift 0 0 1 2 1 0 = 1
            """;
        Run.of("put, shorter", 1).play(floors).play("""
            lift 0 0 0 2 50 0 = 2
            tour 0 1 = 1
            told 1 = 100
            put 1 = -48
            told 1 = 52
            put 2 = -48
            told 1 = 4
            told 2 = 3
            """).stops(1, 0, 2);
        Run.of("put, shorter by 2", 1).play(floors).play("""
            lift 0 0 0 2 4 0 = 2
            tour 0 1 = 1
            told 1 = 8
            put 1 = -2
            told 0 = 2
            told 1 = 6
            """).stops(1, 0);
        Run.of("put, shorter by 1", 1).play(floors).play("""
            lift 0 0 0 2 3 0 = 2
            tour 0 1 = 1
            told 1 = 6
            put 1 = -1
            told 1 = 5
            """).stops(1, 0);
    }

    private static void withoutAWalk() {
        Run.of("put, no walk at all", 1).play("""
            place 0 0 0 = 0
            place 5 0 0 = 1
            part 0 0 0 1 9 1 = 0
            part 1 0 0 9 9 1 = 1
            person 1 0 100000 = 0
            tour 0 1 = 1
            put 1 = -2
            told 0 = 1
            told 1 = 0
            told 2 = 1
            tour 0 0 = 0
            put 1 = -2
            """).stops();
        // Floor 2 has a walk from floor 1 alone, home is on floor 0: with two stops on floor 1
        // there is one gap with walks to and from it, though others would be before it.
        String floors = """
            place 0 0 0 = 0
            place 1 5 0 = 1
            place 1 9 0 = 2
            place 2 0 0 = 3
            lift 0 0 0 1 0 0 = 0
            lift 0 0 1 2 0 0 = 1
            part 1 0 0 1 9 1 = 0
            part 2 0 0 1 9 1 = 1
            part 3 0 0 9 9 1 = 2
            person 1 0 100000 = 0
            stock 0 9 = 9
            tour 0 1 = 2
            told 1 = 18
            """;
        Run.of("put, one gap alone", 1).play(floors).play("""
            put 2 = 10
            told 1 = 28
            """).stops(0, 2, 1);
        Run.of("put, the gap is done with", 1).play(floors).play("""
            done = 0
            put 2 = 10
            """).stops(0, 2, 1);
        Run.of("put, no gap is left", 1).play(floors).play("""
            done = 0
            done = 1
            put 2 = -2
            told 1 = 18
            told 3 = 2
            """).stops(0, 1);
    }

    private static void secondsDoNotMatter() {
        Run.of("put, beyond the seconds", 1).play(LINE).play("""
            person 1 0 63 = 1
            tour 1 1 = 2
            put 3 = 10
            person 1 0 0 = 2
            tour 2 1 = 0
            put 3 = 50
            """).stops(3);
    }

    private static void atMostTwentyStops() {
        Run run = Run.of("put, 20 stops", 1)
            .play("place 0 0 0 = 0")
            .play("person 1 0 100000 = 0")
            .playUp(22, "part 0 0 0 1 9 1", 0)
            .playUp(1, "part 0 1 0 1 9 1", 22)
            .play("tour 0 1 = 7");
        for (int part = 7; part < 20; part++) {
            run.play("put " + part + " = 0");
        }
        run.play("""
            told 0 = 20
            told 2 = 20
            put 20 = state
            put 22 = state
            put 23 = argument
            stop 0 = 19
            stop 19 = 6
            stop 20 = argument
            stock 0 30 = 30
            """);
        for (int part = 19; part >= 7; part--) {
            run.play("done = " + part);
        }
        run.play("put 20 = state\ndone = 0");
    }
}
