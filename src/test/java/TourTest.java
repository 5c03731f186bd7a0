/** Promises 9, 10 and 11: tour, stop, told. */
public final class TourTest {
    private static final int LOW = Integer.MIN_VALUE;
    private static final int HIGH = Integer.MAX_VALUE;

    public static void main(String[] args) {
        wrongNumbers();
        onlyWhatIsDue();
        onlyWithTheSkill();
        onlyWithAWalkFromHome();
        theFirstSevenByDueDays();
        theLeastWalks();
        ofSeveralOrdersTheFirst();
        leftOutForSeconds();
        leftOutForWantOfAWalk();
        anotherTourTakesItsPlace();
        Run.end();
    }

    private static void wrongNumbers() {
        Run.of("tour, wrong numbers", 1)
            .play("""
                place 0 0 0 = 0
                person 255 0 100 = 0
                person 255 0 100 = 1
                part 0 0 0 1 1 1 = 0
                tour 1 100000 = 1
                """)
            .each("tour ? 0", "argument", -1, 2, 8, LOW, HIGH)
            .each("tour 0 ?", "argument", -1, 100001, LOW, HIGH)
            .each("stop ?", "argument", -1, 1, 7, 20, LOW, HIGH)
            .each("told ?", "argument", -1, 5, LOW, HIGH)
            .play("""
                stop 0 = 0
                told 0 = 1
                told 1 = 0
                told 2 = 1
                told 3 = 0
                told 4 = 1
                tour 0 0 = 0
                told 4 = 0
                """);
    }

    private static void onlyWhatIsDue() {
        Run.of("tour, what is due", 1).play("""
            place 0 0 0 = 0
            person 1 0 100000 = 0
            part 0 0 0 10 5 1 = 0
            part 0 0 0 11 5 1 = 1
            tour 0 9 = 0
            told 4 = 0
            told 1 = 0
            tour 0 10 = 1
            """).stops(0).play("""
            used 1 3 5 = 5
            tour 0 2 = 0
            tour 0 3 = 1
            """).stops(1).play("tour 0 100000 = 2").stops(0, 1);
    }

    private static void onlyWithTheSkill() {
        Run run = Run.of("tour, skills", 1).playUp(1, "place 0 0 0", 0);
        for (int skill = 0; skill < 8; skill++) {
            run.playUp(1, "part 0 " + skill + " 0 1 1 " + (skill + 1), skill);
        }
        run.play("""
            person 0 0 100000 = 0
            person 1 0 100000 = 1
            person 128 0 100000 = 2
            person 74 0 100000 = 3
            person 254 0 100000 = 4
            tour 0 1 = 0
            """).stops()
            .play("tour 1 1 = 1").stops(0)
            .play("tour 2 1 = 1").stops(7)
            .play("tour 3 1 = 3").stops(1, 3, 6).play("told 2 = 13")
            .play("tour 4 1 = 7").stops(1, 2, 3, 4, 5, 6, 7);
    }

    private static void onlyWithAWalkFromHome() {
        // Seven urgent parts without a walk from home keep no other one from being a stop.
        Run.of("tour, walks from home", 1).play("""
            place 0 0 0 = 0
            place 1 0 0 = 1
            place 0 9 0 = 2
            place 2 5 0 = 3
            lift 1 0 0 2 3 3 = 0
            lift 0 0 1 1 0 0 = 1
            place 9 0 0 = 4
            person 1 0 100000 = 0
            """)
            .playUp(7, "part 4 0 0 1 1 1", 0)
            .play("""
                part 2 0 0 9 9 1 = 7
                part 3 0 0 9 9 1 = 8
                tour 0 9 = 2
                """)
            .stops(7, 8)
            .play("told 1 = 44");   // 9 + (8 + 3 + 6 + 4) + (4 + 3 + 6 + 1)
    }

    private static void theFirstSevenByDueDays() {
        Run.of("tour, the first seven", 1).play("""
            place 0 0 0 = 0
            place 0 1 0 = 1
            place 0 2 0 = 2
            place 0 3 0 = 3
            place 0 4 0 = 4
            person 1 0 100000 = 0
            part 4 0 0 9 9 1 = 0
            part 4 0 0 8 9 2 = 1
            part 3 0 0 8 9 4 = 2
            part 3 0 0 7 9 8 = 3
            part 2 0 0 6 9 16 = 4
            part 2 0 0 5 9 32 = 5
            part 1 0 0 4 9 64 = 6
            part 1 0 0 3 9 128 = 7
            part 0 0 0 8 9 256 = 8
            tour 0 9 = 7
            """)
            .stops(1, 2, 3, 4, 5, 6, 7)   // not 0 (due last) and not 8 (alike, a greater number)
            .play("""
                told 2 = 254
                told 1 = 8
                used 8 7 9 = 9
                tour 0 9 = 7
                """)
            .stops(1, 3, 4, 5, 6, 7, 8)
            .play("told 2 = 506");
    }

    private static void theLeastWalks() {
        Run.of("tour, the least walks", 1).play("""
            place 0 50 50 = 0
            place 0 0 0 = 1
            place 0 100 100 = 2
            place 0 0 100 = 3
            place 0 100 0 = 4
            person 1 0 100000 = 0
            part 1 0 0 1 1 10 = 0
            part 2 0 0 1 1 10 = 1
            part 3 0 0 1 1 10 = 2
            part 4 0 0 1 1 10 = 3
            tour 0 1 = 4
            told 1 = 500
            told 2 = 40
            """).stops(0, 2, 1, 3);
        // By the lift each time, or up once and down once: the way with fewer rides is the least.
        Run.of("tour, floors", 1).play("""
            place 0 0 0 = 0
            place 3 10 0 = 1
            place 0 20 0 = 2
            place 3 20 0 = 3
            lift 10 0 0 3 50 10 = 0
            person 1 0 100000 = 0
            part 1 0 0 1 1 10 = 0
            part 2 0 0 1 1 10 = 1
            part 3 0 0 1 1 10 = 2
            tour 0 1 = 3
            told 1 = 220
            """).stops(0, 2, 1);
    }

    private static void ofSeveralOrdersTheFirst() {
        // All on one line from home: any order out and back that turns once is as short.
        Run.of("tour, of several orders", 1).play("""
            place 0 0 0 = 0
            place 0 10 0 = 1
            place 0 20 0 = 2
            place 0 30 0 = 3
            person 1 0 100000 = 0
            part 3 0 0 3 1 1 = 0
            part 1 0 0 2 1 1 = 1
            part 2 0 0 1 1 1 = 2
            tour 0 3 = 3
            told 1 = 60
            """).stops(0, 2, 1);
        Run.of("tour, all at home", 1).playUp(1, "place 0 0 0", 0)
            .play("person 1 0 100000 = 0")
            .playUp(1, "part 0 0 0 9 1 1", 0)
            .playUp(1, "part 0 0 0 7 1 1", 1)
            .playUp(1, "part 0 0 0 8 1 1", 2)
            .playUp(1, "part 0 0 0 6 1 1", 3)
            .playUp(1, "part 0 0 0 5 1 1", 4)
            .play("tour 0 9 = 5").stops(0, 1, 2, 3, 4);
    }

    private static void leftOutForSeconds() {
        String house = """
            place 0 0 0 = 0
            place 0 10 0 = 1
            place 0 50 0 = 2
            place 0 0 20 = 3
            part 1 0 0 2 9 5 = 0
            part 2 0 0 1 9 5 = 1
            part 3 0 0 2 9 5 = 2
            """;
        // Due days 1 (part 1), 2 (part 0), 2 (part 2): part 2 goes first, then part 0.
        Run.of("tour, seconds", 1).play(house).play("""
            person 1 0 155 = 0
            person 1 0 154 = 1
            person 1 0 110 = 2
            person 1 0 109 = 3
            person 1 0 105 = 4
            person 1 0 104 = 5
            person 1 0 0 = 6
            tour 0 2 = 3
            told 1 = 140
            told 2 = 15
            """).stops(0, 1, 2)
            .play("tour 1 2 = 2\ntold 1 = 100\ntold 2 = 10").stops(0, 1)
            .play("tour 2 2 = 2").stops(0, 1)
            .play("tour 3 2 = 1\ntold 1 = 100\ntold 2 = 5").stops(1)
            .play("tour 4 2 = 1").stops(1)
            .play("tour 5 2 = 0\ntold 1 = 0\ntold 2 = 0\ntold 4 = 5").stops()
            .play("tour 6 2 = 0\ntold 4 = 6").stops();
    }

    private static void leftOutForWantOfAWalk() {
        // Two lifts from home's floor, to floor 1 and to floor 2: between those there is no walk,
        // so that both can be gone to only with a part of home's floor between them.
        String house = """
            place 1 0 0 = 0
            place 0 0 0 = 1
            place 2 0 0 = 2
            lift 0 0 0 1 1 1 = 0
            lift 0 0 1 2 1 1 = 1
            person 1 0 100000 = 0
            """;
        Run.of("tour, no walk between two", 1).play(house).play("""
            part 1 0 0 1 9 1 = 0
            part 2 0 0 1 9 1 = 1
            tour 0 1 = 1
            told 1 = 4
            told 2 = 1
            """).stops(0);
        Run.of("tour, no walk, left out by due days", 1).play(house).play("""
            part 1 0 0 2 9 1 = 0
            part 2 0 0 1 9 1 = 1
            tour 0 2 = 1
            """).stops(1);
        Run.of("tour, a walk by a third one", 1).play(house).play("""
            part 1 0 0 1 9 1 = 0
            part 2 0 0 1 9 1 = 1
            part 0 0 0 1 9 1 = 2
            tour 0 1 = 3
            told 1 = 8
            """).stops(0, 2, 1);
        Run.of("tour, the third one is left out first", 1).play(house).play("""
            part 1 0 0 1 9 1 = 0
            part 2 0 0 1 9 1 = 1
            part 0 0 0 2 9 5000 = 2
            person 1 0 5010 = 1
            tour 1 2 = 3
            person 1 0 5009 = 2
            tour 2 2 = 1
            """).stops(0);
    }

    private static void anotherTourTakesItsPlace() {
        Run.of("another tour", 1).play("""
            place 0 0 0 = 0
            person 1 0 100000 = 0
            person 2 0 100000 = 1
            part 0 0 0 1 9 1 = 0
            part 0 1 0 1 9 2 = 1
            stock 0 9 = 9
            tour 0 1 = 1
            done = 0
            told 3 = 1
            tour 1 1 = 1
            told 3 = 0
            told 4 = 1
            told 2 = 2
            """).stops(1).play("""
            tour 5 1 = argument
            tour 0 -1 = argument
            """).stops(1).play("""
            tour 0 1 = 0
            told 4 = 0
            """).stops();
    }
}
