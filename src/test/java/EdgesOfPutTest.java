/** The boundary cases of putting a part into a tour. A title is the document's sentence. */
public final class EdgesOfPutTest {
    /** Stops at 10 and 30 of a line; part 2 is at 20, part 3 at home, part 4 at 40, part 5 at 10. */
    private static final String LINE = """
        place 0 0 0 = 0
        place 0 10 0 = 1
        place 0 20 0 = 2
        place 0 30 0 = 3
        place 0 40 0 = 4
        part 1 0 0 1 9 1 = 0
        part 3 0 0 1 9 2 = 1
        part 2 0 0 400 9 4 = 2
        part 0 0 0 400 9 8 = 3
        part 4 0 0 400 9 16 = 4
        part 1 0 0 400 9 32 = 5
        part 2 1 0 1 9 64 = 6
        person 1 0 100000 = 0
        person 2 0 100000 = 1
        stock 0 9 = 9
        """;
    /** Home is on floor 0; from floor 2 there are walks to floor 1 alone. */
    private static final String FLOORS = """
        place 0 0 0 = 0
        place 1 0 0 = 1
        place 2 0 0 = 2
        lift 0 0 0 1 3 0 = 0
        lift 0 0 1 2 5 0 = 1
        part 1 0 0 1 9 1 = 0
        part 1 0 0 1 9 1 = 1
        part 2 0 0 400 9 1 = 2
        part 0 0 0 400 9 1 = 3
        person 1 0 100000 = 0
        stock 0 9 = 9
        """;

    public static void main(String[] args) {
        noTour();
        aStopOfIt();
        dueOrNot();
        withItsSkill();
        beforeTheFirst();
        behindTheLast();
        longerByTheLeast();
        ofSeveralTheFirst();
        ifThereAreWalks();
        cannotBe();
        notBeforeStopsThatAreDone();
        intoATourWithoutStops();
        shorter();
        secondsAreNotAsked();
        Run.end();
    }

    private static void noTour() {
        Run.of("put, illegal state: no tour is under way", 1).play(LINE)
            .each("put ?", "state", 0, 1, 2, 3, 4, 5, 6)
            .each("put ?", "argument", -1, 7, 40, Integer.MIN_VALUE, Integer.MAX_VALUE);
        Run.of("put, illegal state: no tour is under way any more", 1).play(LINE)
            .play("tour 0 1 = 2\nplace 0 0 0 = 5\nput 2 = state");
    }

    private static void aStopOfIt() {
        Run.of("put, illegal state: the part is a stop of it", 1).play(LINE)
            .play("tour 0 1 = 2\nput 0 = state\nput 1 = state\ntold 2 = 3").stops(0, 1)
            .play("put 2 = 0\nput 2 = state\ntold 2 = 7").stops(0, 2, 1)
            .play("done = 0\nput 0 = state\ntold 2 = 7").stops(0, 2, 1);
        Run.of("a stop of another tour may be put in", 1).play(LINE)
            .play("tour 0 1 = 2\ntour 0 0 = 0\nput 1 = 60\nput 0 = 0").stops(0, 1);
    }

    private static void dueOrNot() {
        Run.of("due or not: not", 1).play(LINE)
            .play("tour 0 1 = 2\ndue 2 = 400\nput 2 = 0\ndone = 0\ndone = 2\ndue 2 = 401");
        Run.of("due or not: due, on the tour's day", 1).play(LINE)
            .play("tour 0 0 = 0\nused 2 0 9 = 9\ndue 2 = 0\nput 2 = 40\ndone = 2\ndue 2 = 400");
        Run.of("due or not: one of more than 7", 1).play(LINE)
            .playUp(7, "part 0 0 0 1 9 1", 7)
            .play("tour 0 1 = 7\nput 12 = 0\nput 13 = 0\ntold 0 = 9");
    }

    private static void withItsSkill() {
        Run.of("put, illegal state: the person has not its skill", 1).play(LINE)
            .play("tour 0 1 = 2\nput 6 = state").stops(0, 1)
            .play("tour 1 1 = 1\nput 2 = state").stops(6);
        Run.of("put, the person has all skills", 1).play(LINE)
            .play("person 255 0 100000 = 2\ntour 2 1 = 3\nput 2 = 0").stops(0, 2, 1, 6);
    }

    private static void beforeTheFirst() {
        Run.of("before the first one", 1).play(LINE).play("tour 0 1 = 2\nput 3 = 0").stops(3, 0, 1);
    }

    private static void behindTheLast() {
        // Round a square: its fourth corner lies on the way home alone.
        Run.of("behind the last one", 1).play("""
            place 0 0 0 = 0
            place 0 9 0 = 1
            place 0 9 9 = 2
            place 0 0 9 = 3
            part 1 0 0 1 9 1 = 0
            part 2 0 0 1 9 1 = 1
            part 3 0 0 400 9 1 = 2
            person 1 0 100000 = 0
            tour 0 1 = 2
            told 1 = 36
            put 2 = 0
            told 1 = 36
            """).stops(0, 1, 2);
    }

    private static void longerByTheLeast() {
        Run.of("where walks become longer by the least: by 0", 1).play(LINE)
            .play("tour 0 1 = 2\ntold 1 = 60\nput 2 = 0\ntold 1 = 60").stops(0, 2, 1);
        Run.of("where walks become longer by the least: by 20", 1).play(LINE)
            .play("tour 0 1 = 2\nput 4 = 20\ntold 1 = 80").stops(0, 4, 1);
        // The way goes straight through the square once and along two of its sides.
        String square = """
            place 0 0 0 = 0
            place 0 40 0 = 1
            place 0 40 40 = 2
            place 0 10 30 = 3
            part 2 0 0 1 9 1 = 0
            part 1 0 0 1 9 1 = 1
            part 3 0 0 400 9 1 = 2
            """;
        Run.of("where walks become longer by the least: before the first one", 1).play(square)
            .play("person 1 0 100000 = 0\ntour 0 1 = 2\ntold 1 = 160").stops(0, 1)
            .play("put 2 = 0\ntold 1 = 160").stops(2, 0, 1);
        Run.of("where walks become longer by the least: between", 1).play(square)
            .play("person 1 1 100000 = 0\npart 0 0 0 1 9 1 = 3\npart 2 0 0 2 9 1 = 4")
            .play("tour 0 0 = 0\nput 4 = 80\nput 3 = 80\ntold 1 = 160").stops(3, 4)
            .play("put 2 = 0").stops(3, 2, 4);
    }

    private static void ofSeveralTheFirst() {
        // Part 5 is where stop 0 is: before it and behind it by 0.
        Run.of("of several the first", 1).play(LINE).play("tour 0 1 = 2\nput 5 = 0").stops(5, 0, 1);
        // Part 2 by 0 between the stops and behind them.
        Run.of("of several the first, between and behind", 1).play(LINE)
            .play("tour 0 1 = 2\nput 2 = 0").stops(0, 2, 1);
        // At home: before the first one and behind the last one by 0.
        Run.of("of several the first, at home", 1).play(LINE).play("tour 0 1 = 2\nput 3 = 0").stops(3, 0, 1);
    }

    private static void ifThereAreWalks() {
        Run.of("if there are walks to and from it: between alone", 1).play(FLOORS)
            .play("tour 0 1 = 2\ntold 1 = 6\nput 2 = 10\ntold 1 = 16").stops(0, 2, 1);
        // Home is on floor 1, part 3 on floor 0: behind part 0 there are walks to part 2 but none
        // from it to part 3, behind part 3 there is none to it.
        Run.of("if there are walks to it, but none from it", 1).play(FLOORS)
            .play("person 1 1 100000 = 1\ntour 1 0 = 0\nput 3 = 6\nput 0 = 0\ndone = 0\nput 2 = -2").stops(0, 3)
            .play("put 1 = 0\nput 2 = 10").stops(0, 2, 1, 3);
        // Behind the done stop of floor 0 there is no walk to it, behind the next one there is.
        Run.of("if there are walks from it, but none to it", 1).play(FLOORS)
            .play("person 1 1 100000 = 1\ntour 1 0 = 0\nput 3 = 6\ndone = 3\nput 2 = -2")
            .play("put 0 = 0\nput 2 = 10").stops(3, 0, 2);
    }

    private static void cannotBe() {
        Run.of("-2 if it cannot be: one stop alone", 1).play(FLOORS)
            .play("tour 0 0 = 0\nput 0 = 6\nput 2 = -2\ntold 1 = 6\ntold 2 = 1").stops(0);
        Run.of("-2 if it cannot be: no stops", 1).play(FLOORS)
            .play("tour 0 0 = 0\nput 2 = -2\ntold 4 = 0\ntold 1 = 0").stops();
        Run.of("-2 if it cannot be: the walks are behind us", 1).play(FLOORS)
            .play("tour 0 1 = 2\ndone = 0\ndone = 1\nput 2 = -2").stops(0, 1)
            .play("told 3 = 2\ntold 1 = 6\ntold 2 = 2");
        Run.of("-2, and then it can be", 1).play(FLOORS)
            .play("tour 0 0 = 0\nput 0 = 6\nput 2 = -2\nput 1 = 0\nput 2 = 10").stops(1, 2, 0);
    }

    private static void notBeforeStopsThatAreDone() {
        Run.of("not before stops that are DONE: none is", 1).play(LINE)
            .play("tour 0 1 = 2\nput 5 = 0").stops(5, 0, 1);
        Run.of("not before stops that are DONE: the first is", 1).play(LINE)
            .play("tour 0 1 = 2\ndone = 0\nput 5 = 0").stops(0, 5, 1)
            .play("told 3 = 1\ndone = 5\ndone = 1\ndone = state");
        Run.of("not before stops that are DONE: all are", 1).play(LINE)
            .play("tour 0 1 = 2\ndone = 0\ndone = 1\nput 4 = 20\ntold 1 = 80").stops(0, 1, 4)
            .play("told 3 = 2\ndone = 4\ntold 3 = 3\ndone = state");
        // Before the first one by 0, between by 20, behind the last one by 16.
        String bent = """
            place 0 0 0 = 0
            place 0 10 10 = 1
            place 0 30 0 = 2
            place 0 0 8 = 3
            part 1 0 0 1 9 1 = 0
            part 2 0 0 1 9 1 = 1
            part 3 0 0 400 9 1 = 2
            person 1 0 100000 = 0
            stock 0 9 = 9
            tour 0 1 = 2
            told 1 = 80
            """;
        Run.of("the least of all places", 1).play(bent).play("put 2 = 0").stops(2, 0, 1);
        Run.of("not before stops that are DONE: the least of the others", 1).play(bent)
            .play("done = 0\nput 2 = 16\ntold 1 = 96").stops(0, 1, 2);
    }

    private static void intoATourWithoutStops() {
        Run.of("put into a tour without stops", 1).play(LINE)
            .play("tour 0 0 = 0\nput 4 = 80\ntold 0 = 1\ntold 1 = 80\ntold 2 = 16\ntold 3 = 0").stops(4)
            .play("done = 4\ndue 4 = 400");
        Run.of("put into a tour without stops, at home", 1).play(LINE)
            .play("tour 0 0 = 0\nput 3 = 0\ntold 1 = 0\ntold 2 = 8").stops(3);
    }

    private static void shorter() {
        for (int pause : new int[] {2, 3, 4, 5, 6, 7, 50}) {
            int longer = 4 - pause;
            // By floor 1 it takes two waits of 2, without it one of the third lift.
            Run.of("below 0 where they become shorter, which may be -2, too: " + longer, 1).play("""
                place 0 0 0 = 0
                place 2 0 0 = 1
                place 1 0 0 = 2
                lift 0 0 0 1 2 0 = 0
                lift 0 0 1 2 2 0 = 1
                part 1 0 0 1 9 3 = 0
                part 2 0 0 400 9 4 = 1
                person 1 0 100000 = 0
                """)
                .play("lift 0 0 0 2 " + pause + " 0 = 2")
                .play("tour 0 1 = 1\ntold 1 = " + 2 * pause + "\nput 1 = " + longer)
                .play("told 0 = 2\ntold 2 = 7\ntold 1 = " + (2 * pause + longer)).stops(1, 0);
        }
    }

    private static void secondsAreNotAsked() {
        // The document names no seconds where it says when a part cannot be put in.
        Run.of("put beyond the person's seconds", 1).play(LINE)
            .play("person 1 0 63 = 2\ntour 2 1 = 2\nput 4 = 20\ntold 1 = 80\ntold 2 = 19").stops(0, 4, 1);
    }
}
