/** The boundary cases of the WALK between two places. A title is the document's sentence. */
public final class EdgesOfWalksTest {
    public static void main(String[] args) {
        ofOneFloor();
        onEachFloorOfALift();
        toItAndFromIt();
        speedForEachFloor();
        byTheLiftWithWhichItIsLeast();
        ifNoLiftComesToBoth();
        noSuchPlace();
        Run.end();
    }

    private static void ofOneFloor() {
        Run.of("two places of one floor: |x - x'| + |y - y'|", 1).play("""
            place 3 40 60 = 0
            place 3 50 70 = 1
            place 3 30 50 = 2
            place 3 50 50 = 3
            place 3 30 70 = 4
            """)
            .each("walk 0 ?", "20", 1, 2, 3, 4)
            .each("walk ? 0", "20", 1, 2, 3, 4)
            .play("walk 1 2 = 40\nwalk 3 4 = 40");
        Run.of("a place and itself", 1).play("place 3 40 60 = 0\nwalk 0 0 = 0");
        Run.of("two places at one spot", 1).play("place 3 40 60 = 0\nplace 3 40 60 = 1\nwalk 0 1 = 0");
        Run.of("the longest walk of one floor", 1)
            .play("place 3 0 100 = 0\nplace 3 100 0 = 1\nwalk 0 1 = 200\nwalk 1 0 = 200");
        Run.of("one floor takes no lift", 1)
            .play("place 3 0 0 = 0\nplace 3 9 0 = 1\nlift 5 5 3 3 0 0 = 0\nlift 0 0 0 30 0 0 = 1\nwalk 0 1 = 9");
    }

    private static void onEachFloorOfALift() {
        Run run = Run.of("on each floor from a least to a greatest one", 1);
        for (int floor = 0; floor <= 5; floor++) {
            run.play(Calls.text("place", floor, 0, 0) + " = " + floor);
        }
        run.play("lift 0 0 1 4 0 1 = 0")
            .play("walk 1 2 = 1\nwalk 1 3 = 2\nwalk 1 4 = 3\nwalk 2 4 = 2\nwalk 4 1 = 3")
            .each("walk 0 ?", "-1", 1, 2, 3, 4, 5)
            .each("walk ? 5", "-1", 0, 1, 2, 3, 4);
        Run.of("a lift of one floor", 1).play("""
            place 0 0 0 = 0
            place 1 0 0 = 1
            place 2 0 0 = 2
            lift 0 0 1 1 0 0 = 0
            walk 0 1 = -1
            walk 1 2 = -1
            walk 0 2 = -1
            """);
    }

    private static void toItAndFromIt() {
        Run.of("to it, its WAIT, .. and from it", 1).play("""
            place 0 10 20 = 0
            place 1 40 60 = 1
            lift 30 30 0 1 7 0 = 0
            walk 0 1 = 77
            walk 1 0 = 77
            """);
        Run.of("one WAIT, however many floors", 1)
            .play("place 0 0 0 = 0\nplace 30 0 0 = 1\nlift 0 0 0 30 7 0 = 0\nwalk 0 1 = 7");
        Run.of("the longest walk", 1).play("""
            place 0 0 0 = 0
            place 30 0 0 = 1
            lift 100 100 0 30 100 100 = 0
            walk 0 1 = 3500
            """);
    }

    private static void speedForEachFloor() {
        Run.of("its SPEED for each floor", 1).play("""
            place 4 0 0 = 0
            place 5 0 0 = 1
            place 7 0 0 = 2
            place 0 0 0 = 3
            lift 0 0 0 30 0 10 = 0
            walk 0 1 = 10
            walk 0 2 = 30
            walk 0 3 = 40
            walk 3 2 = 70
            """);
    }

    private static void byTheLiftWithWhichItIsLeast() {
        String floors = "place 0 0 0 = 0\nplace 2 10 0 = 1\n";
        Run.of("by the lift with which this is least: the first", 1).play(floors)
            .play("lift 0 0 0 2 5 0 = 0\nlift 0 0 0 2 6 0 = 1\nwalk 0 1 = 15");
        Run.of("by the lift with which this is least: the last", 1).play(floors)
            .play("lift 0 0 0 2 6 0 = 0\nlift 0 0 0 2 5 0 = 1\nwalk 0 1 = 15");
        Run.of("by the lift with which this is least: alike", 1).play(floors)
            .play("lift 0 0 0 2 5 0 = 0\nlift 10 0 0 2 5 0 = 1\nwalk 0 1 = 15");
        Run.of("the nearer lift is not the least", 1).play(floors)
            .play("lift 0 0 0 2 50 0 = 0\nlift 0 20 0 2 1 0 = 1\nwalk 0 1 = 51");
        Run.of("a less one that does not come to both", 1).play(floors)
            .play("lift 0 0 0 1 0 0 = 0\nlift 0 0 1 2 0 0 = 1\nlift 0 0 0 2 5 0 = 2\nwalk 0 1 = 15");
        Run.of("a walk by another floor is none, even if less", 1).play(floors)
            .play("place 1 0 0 = 2\nlift 0 0 0 1 0 0 = 0\nlift 0 0 1 2 0 0 = 1\nlift 0 0 0 2 99 0 = 2")
            .play("walk 0 2 = 0\nwalk 2 1 = 10\nwalk 0 1 = 109");
    }

    private static void ifNoLiftComesToBoth() {
        String floors = "place 0 0 0 = 0\nplace 2 0 0 = 1\n";
        Run.of("NONE: no lift at all", 1).play(floors + "walk 0 1 = -1\nwalk 1 0 = -1");
        Run.of("NONE: it ends a floor below", 1).play(floors + "lift 0 0 0 1 0 0 = 0\nwalk 0 1 = -1");
        Run.of("NONE: it begins a floor above", 1).play(floors + "lift 0 0 1 2 0 0 = 0\nwalk 0 1 = -1");
        Run.of("NONE: one lift to each", 1)
            .play(floors + "lift 0 0 0 1 0 0 = 0\nlift 0 0 1 2 0 0 = 1\nwalk 0 1 = -1\nwalk 1 0 = -1");
        Run.of("a lift that comes makes a walk", 1)
            .play(floors + "walk 0 1 = -1\nlift 0 0 0 2 0 0 = 0\nwalk 0 1 = 0\nwalk 1 0 = 0");
    }

    private static void noSuchPlace() {
        Run.of("walk, illegal argument: there is no such place", 1)
            .play("walk 0 0 = argument\nplace 0 0 0 = 0\nplace 0 0 0 = 1")
            .each("walk ? 0", "argument", -1, 2, Integer.MIN_VALUE, Integer.MAX_VALUE)
            .each("walk 0 ?", "argument", -1, 2, Integer.MIN_VALUE, Integer.MAX_VALUE)
            .each("walk ? ?", "argument", -1, 2)
            .each("walk ? ?", "0", 0, 1);
    }
}
