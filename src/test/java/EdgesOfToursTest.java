/**
 * The boundary cases of a tour: which parts are its stops, in which order, which of them are left
 * out, how long it is under way. A title is the document's sentence.
 */
public final class EdgesOfToursTest {
    private static final String HOME = "place 0 0 0 = 0\nperson 1 0 100000 = 0\n";

    public static void main(String[] args) {
        partsThatAreDue();
        whoseSkillThePersonHas();
        withAWalkFromHome();
        theFirstSevenByDueDays();
        theFirstSevenByNumbers();
        theLeastSum();
        aWalkEachTime();
        theFirstByNumbersPlaceByPlace();
        noSuchOrder();
        moreThanThePersonsSeconds();
        theLastOfTheStops();
        andSoOn();
        theEighthDoesNotMoveUp();
        withoutStops();
        untilAnotherOneIsMade();
        untilAThingComes();
        notUntilOtherCalls();
        stopsThereAre();
        Run.end();
    }

    private static void partsThatAreDue() {
        Run.of("STOPS may be all parts that are due", 1).play(HOME).play("""
            part 0 0 0 9 9 1 = 0
            part 0 0 0 10 9 1 = 1
            part 0 0 0 11 9 1 = 2
            """)
            .play("tour 0 8 = 0").stops()
            .play("tour 0 9 = 1").stops(0)
            .play("tour 0 10 = 2").stops(0, 1)
            .play("tour 0 11 = 3").stops(0, 1, 2);
    }

    private static void whoseSkillThePersonHas() {
        for (int skill = 0; skill <= 7; skill++) {
            Run.of("whose skill the person has: " + skill, 1).play("place 0 0 0 = 0")
                .play("part 0 " + skill + " 0 1 1 1 = 0")
                .play("person " + (1 << skill) + " 0 100 = 0")
                .play("person " + (255 - (1 << skill)) + " 0 100 = 1")
                .play("tour 0 1 = 1\ntour 1 1 = 0");
        }
        Run.of("a skill the person has not: not one of the 7", 1).play(HOME)
            .playUp(7, "part 0 1 0 1 1 1", 0)
            .playUp(7, "part 0 0 0 2 1 1", 7)
            .play("tour 0 2 = 7").stops(7, 8, 9, 10, 11, 12, 13);
    }

    private static void withAWalkFromHome() {
        String house = HOME + """
            place 1 0 0 = 1
            place 2 0 0 = 2
            lift 0 0 0 1 0 0 = 0
            lift 0 0 1 2 0 0 = 1
            """;
        // There is a walk to floor 2 from floor 1, but none from home.
        Run.of("to whose places there is a walk from home", 1).play(house)
            .play("part 1 0 0 2 1 1 = 0\npart 2 0 0 1 1 1 = 1\ntour 0 2 = 1").stops(0);
        Run.of("no walk from home: not one of the 7", 1).play(house)
            .playUp(7, "part 2 0 0 1 1 1", 0)
            .playUp(7, "part 1 0 0 2 1 1", 7)
            .play("tour 0 2 = 7").stops(7, 8, 9, 10, 11, 12, 13);
    }

    private static void theFirstSevenByDueDays() {
        Run.of("the first 7 of them by their due days", 1).play(HOME)
            .play("part 0 0 0 3 9 1 = 0")
            .playUp(7, "part 0 0 0 2 9 1", 1)
            .play("tour 0 3 = 7").stops(1, 2, 3, 4, 5, 6, 7)
            .play("used 0 1 9 = 9\ntour 0 3 = 7").stops(0, 1, 2, 3, 4, 5, 6);
    }

    private static void theFirstSevenByNumbers() {
        Run.of("of alike ones by their numbers", 1).play(HOME)
            .playUp(9, "part 0 0 0 2 9 1", 0)
            .play("tour 0 2 = 7").stops(0, 1, 2, 3, 4, 5, 6)
            .play("used 8 1 9 = 9\ntour 0 2 = 7").stops(0, 1, 2, 3, 4, 5, 8);
    }

    private static void theLeastSum() {
        // Round a square, from home in a corner: each order but two is longer.
        Run.of("the order with the least sum of walks", 1).play("""
            place 0 0 0 = 0
            place 0 10 10 = 1
            place 0 0 10 = 2
            place 0 10 0 = 3
            person 1 0 100000 = 0
            part 1 0 0 1 9 1 = 0
            part 2 0 0 1 9 1 = 1
            part 3 0 0 1 9 1 = 2
            tour 0 1 = 3
            told 1 = 40
            """).stops(1, 0, 2);
        // The last walk, home, is a part of the sum: from home out and back on two sides.
        Run.of("from the last one home", 1).play("""
            place 0 50 0 = 0
            place 0 20 0 = 1
            place 0 60 0 = 2
            place 0 10 0 = 3
            person 1 0 100000 = 0
            part 1 0 0 1 9 1 = 0
            part 2 0 0 1 9 1 = 1
            part 3 0 0 1 9 1 = 2
            tour 0 1 = 3
            told 1 = 100
            """).stops(0, 2, 1);
        // By the nearest one each time it would take 38.
        Run.of("the least sum, not the nearest one first", 1).play("""
            place 0 50 0 = 0
            place 0 52 0 = 1
            place 0 47 0 = 2
            place 0 57 0 = 3
            place 0 40 0 = 4
            person 1 0 100000 = 0
            part 1 0 0 1 9 1 = 0
            part 2 0 0 1 9 1 = 1
            part 3 0 0 1 9 1 = 2
            part 4 0 0 1 9 1 = 3
            tour 0 1 = 4
            told 1 = 34
            """).stops(0, 2, 1, 3);
    }

    private static void aWalkEachTime() {
        // Home is on floor 1; between floors 0 and 2 there is no walk but by home's floor.
        Run.of("there must be a walk each time", 1).play("""
            place 1 0 0 = 0
            place 0 0 0 = 1
            place 2 0 0 = 2
            place 1 100 100 = 3
            lift 0 0 0 1 0 0 = 0
            lift 0 0 1 2 0 0 = 1
            person 1 0 100000 = 0
            part 1 0 0 1 9 1 = 0
            part 2 0 0 1 9 1 = 1
            part 3 0 0 1 9 1 = 2
            tour 0 1 = 3
            told 1 = 400
            """).stops(0, 2, 1);
    }

    private static void theFirstByNumbersPlaceByPlace() {
        Run.of("of two orders, there and back, the first", 1).play("""
            place 0 0 0 = 0
            place 0 9 0 = 1
            place 0 0 9 = 2
            person 1 0 100000 = 0
            part 2 0 0 2 9 1 = 0
            part 1 0 0 1 9 1 = 1
            tour 0 2 = 2
            """).stops(0, 1);
        // Parts 1 and 2 at one place, 0 and 3 at another one: any order that keeps pairs is as short.
        Run.of("of several orders the first one by the parts' numbers", 1).play("""
            place 0 0 0 = 0
            place 0 9 0 = 1
            place 0 0 9 = 2
            person 1 0 100000 = 0
            part 2 0 0 4 9 1 = 0
            part 1 0 0 3 9 1 = 1
            part 1 0 0 1 9 1 = 2
            part 2 0 0 2 9 1 = 3
            tour 0 4 = 4
            told 1 = 36
            """).stops(0, 3, 1, 2);
        // Seven at one place, due in the opposite order.
        Run run = Run.of("numbers count, not due days", 1).play(HOME);
        for (int part = 0; part < 7; part++) {
            run.play("part 0 0 0 " + (20 - part) + " 9 1 = " + part);
        }
        run.play("tour 0 20 = 7").stops(0, 1, 2, 3, 4, 5, 6);
        // Part 0 lies on the way: it comes first, then the less of the two that are alike.
        Run.of("place by place", 1).play("""
            place 0 0 0 = 0
            place 0 5 0 = 1
            place 0 9 0 = 2
            person 1 0 100000 = 0
            part 1 0 0 1 9 1 = 0
            part 2 0 0 1 9 1 = 1
            part 1 0 0 1 9 1 = 2
            tour 0 1 = 3
            told 1 = 18
            """).stops(0, 1, 2);
    }

    private static final String CROSSING = """
        place 1 0 0 = 0
        place 0 0 0 = 1
        place 2 0 0 = 2
        lift 0 0 0 1 0 0 = 0
        lift 0 0 1 2 0 0 = 1
        person 1 0 100000 = 0
        """;

    private static void noSuchOrder() {
        Run.of("If there is no such order, the last by due days is left out", 1).play(CROSSING)
            .play("part 1 0 0 2 9 1 = 0\npart 2 0 0 1 9 1 = 1\ntour 0 2 = 1").stops(1);
        Run.of("If there is no such order, the last by numbers is left out", 1).play(CROSSING)
            .play("part 1 0 0 2 9 1 = 0\npart 2 0 0 2 9 1 = 1\ntour 0 2 = 1").stops(0);
        Run.of("If there is no such order, and so on", 1).play(CROSSING)
            .play("part 1 0 0 1 9 1 = 0\npart 2 0 0 2 9 1 = 1\npart 1 0 0 3 9 1 = 2\npart 2 0 0 4 9 1 = 3")
            .play("tour 0 4 = 1").stops(0)
            .play("told 1 = 0\ntold 2 = 1");
        Run.of("There is such an order with a part of home's floor", 1).play(CROSSING)
            .play("part 1 0 0 1 9 1 = 0\npart 2 0 0 2 9 1 = 1\npart 0 0 0 3 9 1 = 2")
            .play("tour 0 3 = 3").stops(0, 2, 1)
            .play("tour 0 2 = 1").stops(0);
    }

    private static void moreThanThePersonsSeconds() {
        // 20 to walk and 5 to work.
        Run.of("walks and work take more than the person's seconds", 1).play("""
            place 0 0 0 = 0
            place 0 10 0 = 1
            part 1 0 0 1 9 5 = 0
            person 1 0 24 = 0
            person 1 0 25 = 1
            person 1 0 26 = 2
            person 1 0 20 = 3
            person 1 0 5 = 4
            tour 0 1 = 0
            tour 1 1 = 1
            told 1 = 20
            told 2 = 5
            tour 2 1 = 1
            tour 3 1 = 0
            tour 4 1 = 0
            """);
    }

    private static void theLastOfTheStops() {
        String house = "place 0 0 0 = 0\nplace 0 10 0 = 1\nplace 0 0 20 = 2\n";
        // Each of the two fits alone: that with the greater due day goes, though it takes less.
        Run.of("the last of the stops (by due days) is left out", 1).play(house)
            .play("person 1 0 69 = 0\npart 1 0 0 3 9 5 = 0\npart 2 0 0 2 9 5 = 1\ntour 0 3 = 1").stops(1)
            .play("told 1 = 40\ntold 2 = 5");
        Run.of("the last of the stops (by numbers) is left out", 1).play(house)
            .play("person 1 0 69 = 0\npart 2 0 0 2 9 5 = 0\npart 1 0 0 2 9 5 = 1\ntour 0 3 = 1").stops(0)
            .play("told 1 = 40\ntold 2 = 5");
        Run.of("none is left out", 1).play(house)
            .play("person 1 0 70 = 0\npart 2 0 0 2 9 5 = 0\npart 1 0 0 2 9 5 = 1\ntour 0 3 = 2").stops(0, 1)
            .play("told 1 = 60\ntold 2 = 10");
        // The last stop of the order is not the last by due days.
        Run.of("the last by due days, not by the order", 1).play(house)
            .play("person 1 0 69 = 0\npart 1 0 0 3 9 5 = 0\npart 2 0 0 1 9 5 = 1\ntour 0 3 = 1").stops(1);
    }

    private static void andSoOn() {
        Run run = Run.of("and so on", 1).play("place 0 0 0 = 0");
        for (int part = 0; part < 7; part++) {
            run.play("part 0 0 0 " + (1 + part) + " 9 10 = " + part);
        }
        run.play("""
            person 1 0 70 = 0
            person 1 0 69 = 1
            person 1 0 30 = 2
            person 1 0 29 = 3
            person 1 0 10 = 4
            person 1 0 9 = 5
            """)
            .play("tour 0 9 = 7").stops(0, 1, 2, 3, 4, 5, 6)
            .play("tour 1 9 = 6").stops(0, 1, 2, 3, 4, 5)
            .play("tour 2 9 = 3").stops(0, 1, 2)
            .play("tour 3 9 = 2").stops(0, 1)
            .play("tour 4 9 = 1").stops(0)
            .play("tour 5 9 = 0").stops();
        // The first one by due days is too long for a day: nothing is left, though others would fit.
        Run.of("and so on, to the end", 1).play("""
            place 0 0 0 = 0
            person 1 0 99 = 0
            part 0 0 0 2 9 1 = 0
            part 0 0 0 1 9 100 = 1
            part 0 0 0 3 9 1 = 2
            tour 0 3 = 0
            """).stops();
    }

    private static void theEighthDoesNotMoveUp() {
        // The seventh does not fit; the eighth would, but is none of the first 7.
        Run.of("the first 7 of them, then left out", 1).play("place 0 0 0 = 0\nperson 1 0 100 = 0")
            .playUp(6, "part 0 0 0 1 9 10", 0)
            .play("part 0 0 0 2 9 50 = 6\npart 0 0 0 3 9 10 = 7\ntour 0 3 = 6")
            .stops(0, 1, 2, 3, 4, 5);
    }

    private static void withoutStops() {
        Run.of("(A tour without stops takes 0.)", 1)
            .play("place 0 0 0 = 0\nperson 0 0 0 = 0\nperson 1 0 0 = 1\npart 0 0 0 1 9 1 = 0")
            .play("tour 0 1 = 0\ntold 0 = 0\ntold 1 = 0\ntold 2 = 0\ntold 3 = 0\ntold 4 = 0").stops()
            .play("tour 1 1 = 0\ntold 0 = 0\ntold 1 = 0\ntold 2 = 0\ntold 3 = 0\ntold 4 = 1").stops()
            .play("tour 1 0 = 0\nput 0 = 0\ntold 2 = 1").stops(0);
    }

    /** A tour of two stops, of which one is done: 20 to walk, 12 to work. */
    private static final String UNDER_WAY = """
        place 0 0 0 = 0
        place 0 10 0 = 1
        person 1 0 100000 = 0
        person 1 1 100000 = 1
        part 1 0 0 3 9 5 = 0
        part 1 0 0 3 9 7 = 1
        part 0 0 0 90 9 1 = 2
        stock 0 5 = 5
        tour 0 3 = 2
        done = 0
        """;
    private static final String STILL = """
        told 0 = 2
        told 1 = 20
        told 2 = 12
        told 3 = 1
        told 4 = 0
        stop 0 = 0
        stop 1 = 1
        stop 2 = argument
        """;
    private static final String ENDED = """
        told 0 = 0
        told 1 = 0
        told 2 = 0
        told 3 = 0
        told 4 = -1
        stop 0 = argument
        stop 1 = argument
        put 2 = state
        put 0 = state
        done = state
        """;

    private static void untilAnotherOneIsMade() {
        Run.of("until another one is made", 1).play(UNDER_WAY).play("""
            tour 1 3 = 1
            told 1 = 0
            told 2 = 7
            told 3 = 0
            told 4 = 1
            """).stops(1).play("put 0 = 0\ndone = 0\ndone = 1\ndone = state");
        Run.of("until another one is made, without stops", 1).play(UNDER_WAY)
            .play("tour 1 0 = 0\ntold 1 = 0\ntold 2 = 0\ntold 3 = 0\ntold 4 = 1\ndone = state").stops();
        Run.of("until another one is made, of the same person", 1).play(UNDER_WAY)
            .play("tour 0 3 = 1\ntold 1 = 20\ntold 2 = 7\ntold 3 = 0\ntold 4 = 0").stops(1);
    }

    private static void untilAThingComes() {
        Run.of("until a place comes", 1).play(UNDER_WAY + "place 30 0 0 = 2\n" + ENDED);
        Run.of("until a lift comes", 1).play(UNDER_WAY + "lift 9 9 30 30 0 0 = 0\n" + ENDED);
        Run.of("until a person comes", 1).play(UNDER_WAY + "person 0 0 0 = 2\n" + ENDED);
        Run.of("a tour without stops ends, too", 1).play(UNDER_WAY)
            .play("tour 0 0 = 0\ntold 4 = 0\nplace 30 0 0 = 2\n" + ENDED);
        Run.of("a new one may be made then", 1).play(UNDER_WAY)
            .play("place 30 0 0 = 2\ntour 0 3 = 1\ntold 4 = 0").stops(1);
    }

    private static void notUntilOtherCalls() {
        String[] others = {
            "part 0 0 0 1 1 1 = 3", "used 1 3 9 = 9", "used 0 3 1 = 1", "stock 0 1 = 5", "walk 0 1 = 10",
            "stop 0 = 0", "told 0 = 2", "due 0 = 6", "late 0 = 1", "late 3 = -1", "fine 1 9 = 6",
            "wanted 0 9 = 0", "stop 2 = argument", "told 5 = argument", "put 1 = state", "put 3 = argument",
            "place 31 0 0 = argument", "lift 0 0 1 0 0 0 = argument", "person 256 0 0 = argument",
            "person 1 2 0 = argument", "part 2 0 0 1 1 1 = argument", "tour 2 3 = argument",
            "tour 0 -1 = argument", "tour 0 100001 = argument", "used 0 2 1 = argument",
        };
        for (String other : others) {
            Run.of("UNDER WAY, not until " + other, 1).play(UNDER_WAY).play(other).play(STILL)
                .play("done = 1\ndone = state");
        }
        Run.of("UNDER WAY, not until there are too many places", 1).play("place 0 9 9 = 0")
            .playUp(29, "place 0 0 0", 1)
            .play("person 1 1 9 = 0\npart 1 0 0 1 1 1 = 0\ntour 0 1 = 1\nplace 0 0 0 = state").stops(0);
        Run.of("UNDER WAY, not until there are too many lifts", 1).play("place 0 9 9 = 0")
            .playUp(6, "lift 0 0 0 0 0 0", 0)
            .play("person 1 0 9 = 0\npart 0 0 0 1 1 1 = 0\ntour 0 1 = 1\nlift 0 0 0 0 0 0 = state").stops(0);
        Run.of("UNDER WAY, not until there are too many persons", 1).play("place 0 9 9 = 0")
            .playUp(8, "person 1 0 9", 0)
            .play("part 0 0 0 1 1 1 = 0\ntour 0 1 = 1\nperson 0 0 0 = state").stops(0);
    }

    private static void stopsThereAre() {
        Run.of("stop, illegal argument: there is none such, no tour", 1)
            .each("stop ?", "argument", -1, 0, 1, Integer.MIN_VALUE, Integer.MAX_VALUE);
        Run.of("stop, illegal argument: there is none such", 1).play(UNDER_WAY)
            .each("stop ?", "argument", -1, 2, 3, 19, 20, 21, Integer.MIN_VALUE, Integer.MAX_VALUE)
            .play("put 2 = 0").stops(0, 1, 2)
            .each("stop ?", "argument", -1, 3, 4);
        Run.of("stop, of a shorter tour behind a longer one", 1).play(UNDER_WAY)
            .play("tour 0 3 = 1").stops(1)
            .each("stop ?", "argument", -1, 1, 2);
    }
}
