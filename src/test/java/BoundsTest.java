/**
 * The bounds of every number, each sentence of the document's 'Terms' by itself: the last numbers
 * that are allowed, with what they do, and the first ones that are not. A title is the sentence.
 */
public final class BoundsTest {
    private static final String HOME = "place 0 0 0 = 0\n";

    public static void main(String[] args) {
        rate();
        floor();
        spot();
        liftFloors();
        liftSpot();
        waitAndSpeed();
        partPlace();
        skill();
        kind();
        every();
        hours();
        work();
        skillsOfPersons();
        homeOfPersons();
        seconds();
        days();
        hoursOfUse();
        thingsThatCome();
        toldOf();
        Run.end();
    }

    private static void rate() {
        String part = HOME + "part 0 0 0 1 1 1 = 0\n";
        Run.of("RATE below 0 counts as 0", -1).play(part + "fine 0 100000 = 0");
        Run.of("RATE far below 0 counts as 0", Integer.MIN_VALUE).play(part + "fine 0 100000 = 0");
        Run.of("RATE 0", 0).play(part + "fine 0 100000 = 0");
        Run.of("RATE 1", 1).play(part + "fine 0 2 = 1");
        Run.of("RATE 999", 999).play(part + "fine 0 2 = 999");
        Run.of("RATE 1000", 1000).play(part + "fine 0 2 = 1000");
        Run.of("RATE above 1000 counts as 1000", 1001).play(part + "fine 0 2 = 1000");
        Run.of("RATE far above 1000 counts as 1000", Integer.MAX_VALUE).play(part + "fine 0 3 = 2000");
    }

    private static void floor() {
        Run.of("a floor (0 .. 30)", 1)
            .each("place ? 0 0", "argument", -1, 31)
            .play("""
                place 0 0 0 = 0
                place 30 0 0 = 1
                lift 0 0 0 30 0 1 = 0
                walk 0 1 = 30
                """)
            .each("place ? 0 0", "argument", -1, 31)
            .play("place 29 0 0 = 2\nwalk 1 2 = 1");
    }

    private static void spot() {
        Run.of("x (0 .. 100)", 1)
            .each("place 0 ? 0", "argument", -1, 101)
            .play("place 0 0 0 = 0\nplace 0 100 0 = 1\nwalk 0 1 = 100");
        Run.of("y (0 .. 100)", 1)
            .each("place 0 0 ?", "argument", -1, 101)
            .play("place 0 0 0 = 0\nplace 0 0 100 = 1\nwalk 0 1 = 100");
        Run.of("x, y both at their greatest", 1)
            .play("place 0 100 100 = 0\nplace 0 0 0 = 1\nwalk 0 1 = 200");
    }

    private static void liftFloors() {
        Run.of("Illegal argument: also if least is above greatest", 1).play("""
            lift 0 0 1 0 0 0 = argument
            lift 0 0 30 29 0 0 = argument
            lift 0 0 30 0 0 0 = argument
            lift 0 0 0 0 0 0 = 0
            lift 0 0 30 30 0 0 = 1
            lift 0 0 0 1 0 0 = 2
            lift 0 0 0 30 0 0 = 3
            """);
        Run.of("a least floor (0 .. 30)", 1)
            .each("lift 0 0 ? 30 0 0", "argument", -1, 31)
            .play("lift 0 0 0 30 0 0 = 0\nlift 0 0 30 30 0 0 = 1");
        Run.of("a greatest floor (0 .. 30)", 1)
            .each("lift 0 0 0 ? 0 0", "argument", -1, 31)
            .play("lift 0 0 0 0 0 0 = 0\nlift 0 0 0 30 0 0 = 1")
            .each("lift 0 0 ? ? 0 0", "argument", -1, 31);
    }

    private static void liftSpot() {
        String floors = "place 0 0 0 = 0\nplace 1 0 0 = 1\n";
        Run.of("a lift's x (0 .. 100)", 1).play(floors)
            .each("lift ? 0 0 1 0 0", "argument", -1, 101)
            .play("lift 100 0 0 1 0 0 = 0\nwalk 0 1 = 200\nlift 0 0 0 1 0 0 = 1\nwalk 0 1 = 0");
        Run.of("a lift's y (0 .. 100)", 1).play(floors)
            .each("lift 0 ? 0 1 0 0", "argument", -1, 101)
            .play("lift 0 100 0 1 0 0 = 0\nwalk 0 1 = 200\nlift 0 0 0 1 0 0 = 1\nwalk 0 1 = 0");
    }

    private static void waitAndSpeed() {
        String floors = "place 0 0 0 = 0\nplace 3 0 0 = 1\n";
        Run.of("a WAIT (0 .. 100)", 1).play(floors)
            .each("lift 0 0 0 3 ? 0", "argument", -1, 101)
            .play("lift 0 0 0 3 100 0 = 0\nwalk 0 1 = 100\nlift 0 0 0 3 0 0 = 1\nwalk 0 1 = 0");
        Run.of("a SPEED (0 .. 100)", 1).play(floors)
            .each("lift 0 0 0 3 0 ?", "argument", -1, 101)
            .play("lift 0 0 0 3 0 100 = 0\nwalk 0 1 = 300\nlift 0 0 0 3 0 0 = 1\nwalk 0 1 = 0");
    }

    private static void partPlace() {
        Run.of("each at a place", 1).play("part 0 0 0 1 1 1 = argument\n" + HOME)
            .each("part ? 0 0 1 1 1", "argument", -1, 1)
            .play("place 0 7 0 = 1")
            .each("part ? 0 0 1 1 1", "argument", -1, 2)
            .play("""
                part 1 0 0 1 1 1 = 0
                part 0 0 0 2 1 1 = 1
                person 1 0 100000 = 0
                tour 0 1 = 1
                told 1 = 14
                """);
    }

    private static void skill() {
        Run.of("a SKILL (0 .. 7)", 1).play(HOME)
            .each("part 0 ? 0 1 1 1", "argument", -1, 8)
            .play("""
                part 0 0 0 1 1 1 = 0
                part 0 7 0 1 1 1 = 1
                person 1 0 100000 = 0
                person 128 0 100000 = 1
                tour 0 1 = 1
                stop 0 = 0
                tour 1 1 = 1
                stop 0 = 1
                """);
    }

    private static void kind() {
        Run.of("a KIND (0 .. 4) of a part", 1).play(HOME)
            .each("part 0 0 ? 1 1 1", "argument", -1, 5)
            .play("part 0 0 0 1 1 1 = 0\npart 0 0 4 1 1 1 = 1")
            .each("wanted ? 1", "1", 0, 4)
            .each("wanted ? 1", "0", 1, 2, 3);
        Run.of("a KIND (0 .. 4) of stock", 1)
            .each("stock ? 1", "argument", -1, 5)
            .each("stock ? 3", "3", 0, 1, 2, 3, 4);
        Run.of("a KIND (0 .. 4) that is wanted", 1)
            .each("wanted ? 1", "argument", -1, 5)
            .each("wanted ? 1", "0", 0, 1, 2, 3, 4);
    }

    private static void every() {
        Run.of("EVERY (1 .. 400 days)", 1).play(HOME)
            .each("part 0 0 0 ? 1 1", "argument", -1, 0, 401)
            .play("part 0 0 0 1 1 1 = 0\npart 0 0 0 400 1 1 = 1\ndue 0 = 1\ndue 1 = 400");
    }

    private static void hours() {
        Run.of("HOURS (1 .. 10000)", 1).play(HOME)
            .each("part 0 0 0 400 ? 1", "argument", -1, 0, 10001)
            .play("part 0 0 0 400 1 1 = 0\npart 0 0 0 400 10000 1 = 1\nused 0 5 1 = 1\ndue 0 = 5");
        Run run = Run.of("HOURS 10000", 1).play(HOME + "part 0 0 0 400 10000 1 = 0");
        for (int day = 1; day <= 9; day++) {
            run.play("used 0 " + day + " 1000 = " + 1000 * day);
        }
        run.play("used 0 10 999 = 9999\ndue 0 = 400\nused 0 11 1 = 10000\ndue 0 = 11");
    }

    private static void work() {
        Run.of("WORK (1 .. 7200 seconds)", 1).play(HOME)
            .each("part 0 0 0 1 1 ?", "argument", -1, 0, 7201)
            .play("""
                part 0 0 0 1 1 1 = 0
                part 0 1 0 1 1 7200 = 1
                person 1 0 1 = 0
                person 1 0 0 = 1
                person 2 0 7200 = 2
                person 2 0 7199 = 3
                tour 0 1 = 1
                told 2 = 1
                tour 1 1 = 0
                tour 2 1 = 1
                told 2 = 7200
                tour 3 1 = 0
                """);
    }

    private static void skillsOfPersons() {
        Run.of("skills (as bits)", 1).play(HOME + "part 0 0 0 1 1 1 = 0\npart 0 7 0 1 1 1 = 1")
            .each("person ? 0 100000", "argument", -1, 256)
            .play("""
                person 0 0 100000 = 0
                person 255 0 100000 = 1
                person 127 0 100000 = 2
                person 254 0 100000 = 3
                tour 0 1 = 0
                tour 1 1 = 2
                tour 2 1 = 1
                stop 0 = 0
                tour 3 1 = 1
                stop 0 = 1
                """);
    }

    private static void homeOfPersons() {
        Run.of("a HOME (a place)", 1).play("person 1 0 100000 = argument\n" + HOME)
            .each("person 1 ? 100000", "argument", -1, 1)
            .play("place 0 7 0 = 1")
            .each("person 1 ? 100000", "argument", -1, 2)
            .play("""
                part 0 0 0 1 1 1 = 0
                person 1 0 100000 = 0
                person 1 1 100000 = 1
                tour 0 1 = 1
                told 1 = 0
                tour 1 1 = 1
                told 1 = 14
                """);
    }

    private static void seconds() {
        Run.of("SECONDS a day (0 .. 100000)", 1).play(HOME + "part 0 0 0 1 1 1 = 0")
            .each("person 1 0 ?", "argument", -1, 100001)
            .play("""
                person 1 0 0 = 0
                person 1 0 1 = 1
                person 1 0 100000 = 2
                tour 0 1 = 0
                tour 1 1 = 1
                tour 2 1 = 1
                """);
        // Seven times the longest work, and far to go: of one day the most that a person can do.
        Run.of("SECONDS for seven of the longest", 1).play("""
            place 0 0 0 = 0
            place 30 0 0 = 1
            lift 100 100 0 30 100 100 = 0
            person 1 0 57400 = 0
            person 1 0 57399 = 1
            """)
            .playUp(7, "part 1 0 0 1 1 7200", 0)
            .play("""
                tour 0 1 = 7
                told 1 = 7000
                told 2 = 50400
                tour 1 1 = 6
                told 1 = 7000
                told 2 = 43200
                """);
    }

    private static void days() {
        String house = HOME + "part 0 0 0 1 9 1 = 0\nperson 1 0 100000 = 0\n";
        Run.of("DAYS are 0 .. 100000: used", 1).play(house)
            .each("used 0 ? 1", "argument", -1, 100001)
            .play("used 0 0 1 = 1\nused 0 100000 1 = 2\nused 0 100000 1 = 3\nused 0 99999 1 = argument");
        Run.of("DAYS are 0 .. 100000: tour", 1).play(house)
            .each("tour 0 ?", "argument", -1, 100001)
            .play("""
                stock 0 2 = 2
                tour 0 0 = 0
                put 0 = 0
                done = 0
                due 0 = 1
                tour 0 100000 = 1
                done = 0
                due 0 = 100001
                tour 0 100000 = 0
                """);
        Run.of("DAYS are 0 .. 100000: fine", 1).play(house)
            .each("fine 0 ?", "argument", -1, 100001)
            .play("fine 0 0 = 0\nfine 0 100000 = 399926");
        Run.of("DAYS are 0 .. 100000: wanted", 1).play(house)
            .each("wanted 0 ?", "argument", -1, 100001)
            .play("wanted 0 0 = 0\nwanted 0 100000 = 1\nused 0 0 9 = 9\nwanted 0 0 = 1");
    }

    private static void hoursOfUse() {
        Run.of("used for so many hours (1 .. 1000) more", 1)
            .play(HOME + "part 0 0 0 400 9 1 = 0")
            .each("used 0 5 ?", "argument", -1, 0, 1001)
            .play("used 0 5 1 = 1\nused 0 5 1000 = 1001");
    }

    private static void thingsThatCome() {
        Run.of("Spare things of a kind come (1 .. 1000)", 1)
            .each("stock 0 ?", "argument", -1, 0, 1001)
            .play("stock 0 1 = 1\nstock 0 1000 = 1001\nstock 1 1000 = 1000\nstock 1 1 = 1001");
    }

    private static void toldOf() {
        Run.of("told: what = 0 .. 4", 1)
            .each("told ?", "argument", -1, 5)
            .each("told ?", "0", 0, 1, 2, 3)
            .play("told 4 = -1")
            .play(HOME + "person 0 0 0 = 0\ntour 0 0 = 0")
            .each("told ?", "argument", -1, 5)
            .each("told ?", "0", 0, 1, 2, 3, 4);
    }
}
