/** Promises 1 to 5: a new object, place, lift, part, person. */
public final class ThingsTest {
    private static final int LOW = Integer.MIN_VALUE;
    private static final int HIGH = Integer.MAX_VALUE;

    public static void main(String[] args) {
        newObjectHasNothing();
        rateIsCutToItsBounds();
        places();
        lifts();
        parts();
        persons();
        Run.report("NONE", Integer.toString(CareTours.NONE), "-1");
        Run.end();
    }

    private static void newObjectHasNothing() {
        Run.of("new object", 30)
            .play("""
                walk 0 0 = argument
                due 0 = argument
                late 0 = -1
                fine 0 0 = argument
                used 0 0 1 = argument
                tour 0 0 = argument
                put 0 = argument
                done = state
                """)
            .stops()
            .each("told ?", "0", 0, 1, 2, 3)
            .each("told ?", "-1", 4)
            .each("wanted ? 100000", "0", 0, 1, 2, 3, 4);
    }

    private static void rateIsCutToItsBounds() {
        String house = """
            place 0 0 0 = 0
            part 0 0 0 1 1 1 = 0
            """;
        Run.of("rate 0", 0).play(house).play("fine 0 100000 = 0");
        Run.of("rate 1", 1).play(house).play("fine 0 2 = 1");
        Run.of("rate 1000", 1000).play(house).play("fine 0 2 = 1000");
        Run.of("rate 1001", 1001).play(house).play("fine 0 2 = 1000");
        Run.of("greatest rate", HIGH).play(house).play("fine 0 3 = 2000");
        Run.of("rate -1", -1).play(house).play("fine 0 2 = 0");
        Run.of("least rate", LOW).play(house).play("fine 0 100 = 0");
    }

    private static void places() {
        Run.of("place", 1)
            .each("place ? 0 0", "argument", -1, 31, LOW, HIGH)
            .each("place 0 ? 0", "argument", -1, 101, LOW, HIGH)
            .each("place 0 0 ?", "argument", -1, 101, LOW, HIGH)
            .play("""
                place 0 0 0 = 0
                place 30 100 100 = 1
                walk 1 2 = argument
                """)
            .playUp(28, "place 3 4 5", 2)
            .play("""
                walk 29 2 = 0
                place 3 4 5 = state
                place 31 4 5 = argument       # named first
                walk 0 30 = argument
                """);
        for (String failing : new String[] {"place 0 0 101", "place 31 0 0"}) {
            underWay("no place, no end: " + failing).play(failing + " = argument\ntold 4 = 0");
        }
        underWay("a place ends a tour").play("place 0 0 0 = 2").play(NO_TOUR);
        underWay("a place too many ends none")
            .playUp(28, "place 0 0 0", 2)
            .play("""
                tour 0 5 = 1
                place 0 0 0 = state
                told 4 = 0
                told 0 = 1
                """);
    }

    private static final String NO_TOUR = """
        told 4 = -1
        told 0 = 0
        told 1 = 0
        told 2 = 0
        told 3 = 0
        stop 0 = argument
        done = state
        put 0 = state
        """;

    private static Run underWay(String title) {
        return Run.of(title, 1).play("""
            place 0 0 0 = 0
            place 0 0 9 = 1
            person 1 0 100000 = 0
            part 1 0 0 5 10 10 = 0
            stock 0 5 = 5
            tour 0 5 = 1
            told 1 = 18
            told 2 = 10
            """);
    }

    private static void lifts() {
        Run.of("lift", 1)
            .each("lift ? 0 0 1 0 0", "argument", -1, 101, LOW, HIGH)
            .each("lift 0 ? 0 1 0 0", "argument", -1, 101, LOW, HIGH)
            .each("lift 0 0 ? 30 0 0", "argument", -1, 31, LOW, HIGH)
            .each("lift 0 0 0 ? 0 0", "argument", -1, 31, LOW, HIGH)
            .each("lift 0 0 0 1 ? 0", "argument", -1, 101, LOW, HIGH)
            .each("lift 0 0 0 1 0 ?", "argument", -1, 101, LOW, HIGH)
            .play("""
                lift 0 0 3 2 0 0 = argument
                lift 0 0 31 31 0 0 = argument
                lift 0 0 0 0 0 0 = 0
                lift 100 100 30 30 100 100 = 1
                """)
            .playUp(4, "lift 0 0 0 30 0 0", 2)
            .play("""
                lift 0 0 0 30 0 0 = state
                lift 0 0 3 2 0 0 = argument
                """);
        underWay("no lift, no end").play("""
            lift 0 0 3 2 0 0 = argument
            told 4 = 0
            """);
        underWay("a lift ends a tour").play("lift 0 0 0 0 0 0 = 0").play(NO_TOUR);
        underWay("a lift too many ends none")
            .playUp(6, "lift 0 0 0 0 0 0", 0)
            .play("""
                tour 0 5 = 1
                lift 0 0 0 0 0 0 = state
                told 4 = 0
                """);
    }

    private static void parts() {
        Run.of("part", 1)
            .play("""
                part 0 0 0 1 1 1 = argument
                place 0 0 0 = 0
                """)
            .each("part ? 0 0 1 1 1", "argument", -1, 1, 30, LOW, HIGH)
            .each("part 0 ? 0 1 1 1", "argument", -1, 8, LOW, HIGH)
            .each("part 0 0 ? 1 1 1", "argument", -1, 5, LOW, HIGH)
            .each("part 0 0 0 ? 1 1", "argument", -1, 0, 401, LOW, HIGH)
            .each("part 0 0 0 1 ? 1", "argument", -1, 0, 10001, LOW, HIGH)
            .each("part 0 0 0 1 1 ?", "argument", -1, 0, 7201, LOW, HIGH)
            .play("""
                part 0 7 4 400 10000 7200 = 0
                part 0 0 0 1 1 1 = 1
                due 0 = 400
                due 1 = 1
                due 2 = argument
                """)
            .playUp(38, "part 0 0 0 5 5 5", 2)
            .play("""
                part 0 0 0 5 5 5 = state
                part 1 0 0 5 5 5 = argument
                part 0 0 0 5 5 0 = argument
                due 39 = 5
                due 40 = argument
                late 39 = 0
                late 40 = -1
                """);
        underWay("a part ends no tour").play("""
            part 1 0 0 5 10 10 = 1
            told 4 = 0
            told 0 = 1
            put 1 = 0
            """).stops(1, 0);
    }

    private static void persons() {
        Run.of("person", 1)
            .play("""
                person 0 0 0 = argument
                place 0 0 0 = 0
                """)
            .each("person ? 0 0", "argument", -1, 256, LOW, HIGH)
            .each("person 0 ? 0", "argument", -1, 1, 30, LOW, HIGH)
            .each("person 0 0 ?", "argument", -1, 100001, LOW, HIGH)
            .play("""
                person 0 0 0 = 0
                person 255 0 100000 = 1
                tour 1 0 = 0
                told 4 = 1
                tour 2 0 = argument
                told 4 = 1
                """)
            .playUp(6, "person 1 0 1", 2)
            .play("""
                person 1 0 1 = state
                person 256 0 1 = argument
                tour 7 0 = 0
                told 4 = 7
                tour 8 0 = argument
                person 1 0 1 = state
                told 4 = 7
                """);
        underWay("no person, no end").play("""
            person 256 0 0 = argument
            told 4 = 0
            """);
        underWay("a person ends a tour").play("person 0 0 0 = 1").play(NO_TOUR);
    }
}
