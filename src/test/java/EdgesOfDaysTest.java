/**
 * The boundary cases of days and hours: what a part's due day is, when it is due, used, done, late,
 * fine, wanted. A title is the document's sentence.
 */
public final class EdgesOfDaysTest {
    private static final String HOUSE = """
        place 0 0 0 = 0
        person 255 0 100000 = 0
        part 0 0 0 50 100 10 = 0
        stock 0 9 = 9
        """;

    public static void main(String[] args) {
        atFirst();
        dueByDays();
        dueByHours();
        dueByTheFirstSuchDay();
        ifThatIsLess();
        dueOnADay();
        usedNotBelowTheTest();
        usedNotBelowTheLastTold();
        sinceItWasTested();
        testedOnTheToursDay();
        noSpareThing();
        nothingToBeDone();
        late();
        lateOfAlikeOnes();
        fineOnTheFirstDays();
        fineOfTheThreeRates();
        fineAtMost();
        fineAfterATest();
        wantedAboveThoseThatThereAre();
        wantedForAllPartsThatAreDue();
        Run.end();
    }

    private static void atFirst() {
        Run.of("TESTED on a day (0 at first)", 1).play(HOUSE).play("due 0 = 50\nused 0 0 1 = 1");
        Run.of("USED for some hours since then (0 at first)", 1).play(HOUSE).play("used 0 9 7 = 7");
        // A part that comes late is tested on day 0 as well.
        Run.of("TESTED, 0 at first, whenever it comes", 1).play(HOUSE).play("""
            tour 0 1000 = 1
            done = 0
            part 0 0 0 50 100 10 = 1
            due 1 = 50
            used 1 0 3 = 3
            """);
    }

    private static void dueByDays() {
        Run.of("Its DUE DAY is the day it was tested and EVERY", 1).play(HOUSE).play("""
            due 0 = 50
            tour 0 73 = 1
            done = 0
            due 0 = 123
            """);
    }

    private static void dueByHours() {
        Run.of("used for HOURS or more: one hour less", 1).play(HOUSE)
            .play("used 0 3 99 = 99\ndue 0 = 50");
        Run.of("used for HOURS or more: HOURS", 1).play(HOUSE)
            .play("used 0 3 100 = 100\ndue 0 = 3");
        Run.of("used for HOURS or more: one hour more", 1).play(HOUSE)
            .play("used 0 3 101 = 101\ndue 0 = 3");
        Run.of("used for HOURS or more: by and by", 1).play(HOUSE)
            .play("used 0 3 99 = 99\nused 0 4 1 = 100\ndue 0 = 4");
        Run.of("used for HOURS or more: on day 0", 1).play(HOUSE)
            .play("used 0 0 100 = 100\ndue 0 = 0");
    }

    private static void dueByTheFirstSuchDay() {
        Run.of("the first day on which it was told to have been used for HOURS", 1).play(HOUSE).play("""
            used 0 3 100 = 100
            used 0 4 100 = 200
            due 0 = 3
            used 0 49 1000 = 1200
            due 0 = 3
            """);
    }

    private static void ifThatIsLess() {
        Run.of("if that is less: it is, by a day", 1).play(HOUSE)
            .play("used 0 49 100 = 100\ndue 0 = 49");
        Run.of("if that is less: it is the same", 1).play(HOUSE)
            .play("used 0 50 100 = 100\ndue 0 = 50");
        Run.of("if that is less: it is more, by a day", 1).play(HOUSE)
            .play("used 0 51 100 = 100\ndue 0 = 50");
        Run.of("if that is less: it is far more", 1).play(HOUSE)
            .play("used 0 100000 100 = 100\ndue 0 = 50");
    }

    private static void dueOnADay() {
        Run.of("DUE if its due day is not behind that day: tour", 1).play(HOUSE)
            .play("tour 0 49 = 0\ntour 0 50 = 1\ntour 0 51 = 1");
        Run.of("DUE if its due day is not behind that day: wanted", 1).play(HOUSE)
            .play("part 0 0 1 50 100 10 = 1\nwanted 1 49 = 0\nwanted 1 50 = 1\nwanted 1 51 = 1");
        Run.of("DUE if its due day is not behind that day: by hours", 1).play(HOUSE)
            .play("used 0 20 100 = 100\ntour 0 19 = 0\ntour 0 20 = 1\ntour 0 21 = 1");
    }

    private static void usedNotBelowTheTest() {
        Run.of("used: if the day is below that on which it was tested", 1).play(HOUSE).play("""
            tour 0 60 = 1
            done = 0
            used 0 59 1 = argument
            used 0 0 1 = argument
            used 0 60 1 = 1
            used 0 61 1 = 2
            """);
        Run.of("used: the day on which another part was tested", 1).play(HOUSE).play("""
            part 0 0 0 400 100 10 = 1
            tour 0 60 = 1
            done = 0
            used 1 59 1 = 1
            """);
    }

    private static void usedNotBelowTheLastTold() {
        Run.of("used: if the day is below the last told", 1).play(HOUSE).play("""
            used 0 30 1 = 1
            used 0 29 1 = argument
            used 0 30 1 = 2
            used 0 31 1 = 3
            used 0 30 1 = argument
            """);
        Run.of("used: below the day that another part was told", 1).play(HOUSE).play("""
            part 0 0 0 400 100 10 = 1
            used 0 30 1 = 1
            used 1 29 1 = 1
            """);
        Run.of("used: last told since then", 1).play(HOUSE).play("""
            used 0 90 1 = 1
            tour 0 60 = 1
            done = 0
            used 0 59 1 = argument
            used 0 60 1 = 1
            """);
    }

    private static void sinceItWasTested() {
        Run.of("tested on it, used for 0 hours", 1).play(HOUSE).play("""
            used 0 10 100 = 100
            due 0 = 10
            tour 0 10 = 1
            done = 0
            due 0 = 60
            used 0 10 99 = 99
            due 0 = 60
            used 0 11 1 = 100
            due 0 = 11
            """);
    }

    private static void testedOnTheToursDay() {
        Run.of("is done, on its day: the first one", 1).play(HOUSE)
            .play("tour 0 0 = 0\nput 0 = 0\ndone = 0\ndue 0 = 50");
        Run.of("is done, on its day: the last one", 1).play(HOUSE)
            .play("tour 0 100000 = 1\ndone = 0\ndue 0 = 100050\nused 0 99999 1 = argument\nused 0 100000 1 = 1");
        Run.of("is done, on its day: before that of the last test", 1).play(HOUSE)
            .play("tour 0 80 = 1\ndone = 0\ntour 0 20 = 0\nput 0 = 0\ndone = 0\ndue 0 = 70\nused 0 20 1 = 1");
    }

    private static void noSpareThing() {
        Run.of("-2, changing nothing, if there is no spare thing", 1).play(HOUSE).play("""
            part 0 0 1 50 100 10 = 1
            used 1 45 60 = 60
            tour 0 60 = 2
            done = 0
            done = -2
            told 0 = 2
            told 3 = 1
            stop 1 = 1
            due 1 = 50
            used 1 45 40 = 100
            due 1 = 45
            stock 1 1 = 1
            done = 1
            due 1 = 110
            stock 1 1 = 1
            """);
        Run.of("a test takes one of its kind, and of no other", 1).play(HOUSE).play("""
            part 0 0 4 50 100 10 = 1
            stock 4 1 = 1
            tour 0 60 = 2
            done = 0
            done = 1
            stock 0 1 = 9
            stock 4 1 = 1
            stock 1 1 = 1
            stock 2 1 = 1
            stock 3 1 = 1
            """);
    }

    private static void nothingToBeDone() {
        Run.of("done, illegal state: no tour is under way", 1).play(HOUSE).play("done = state");
        Run.of("done, illegal state: all stops are done, of one", 1).play(HOUSE)
            .play("tour 0 50 = 1\ndone = 0\ndone = state\nstock 0 1 = 9\ndue 0 = 100");
        Run.of("done, illegal state: all stops are done, of none", 1).play(HOUSE)
            .play("tour 0 49 = 0\ndone = state\nstock 0 1 = 10");
        Run.of("done, illegal state: named though there is no spare thing", 1)
            .play("place 0 0 0 = 0\nperson 1 0 1 = 0\ntour 0 0 = 0\ndone = state");
    }

    private static void late() {
        Run.of("late: NONE, no part yet", 1).each("late ?", "-1", 0, 1, 39, 40, Integer.MAX_VALUE);
        Run.of("late: illegal argument: k is below 0", 1)
            .each("late ?", "argument", -1, -2, Integer.MIN_VALUE);
        Run.of("late: one part", 1).play(HOUSE)
            .each("late ?", "argument", -1, -2, Integer.MIN_VALUE)
            .play("late 0 = 0\nlate 1 = -1\nlate 40 = -1");
        Run.of("late: so many others before it by due days", 1).play(HOUSE).play("""
            part 0 0 0 49 100 10 = 1
            part 0 0 0 51 100 10 = 2
            late 0 = 1
            late 1 = 0
            late 2 = 2
            late 3 = -1
            """);
    }

    private static void lateOfAlikeOnes() {
        Run.of("late: by due days, then numbers", 1).play(HOUSE).play("""
            part 0 0 0 50 100 10 = 1
            part 0 0 0 50 100 10 = 2
            late 0 = 0
            late 1 = 1
            late 2 = 2
            used 2 49 100 = 100
            late 0 = 2
            late 1 = 0
            late 2 = 1
            used 0 49 100 = 100
            late 0 = 0
            late 1 = 2
            late 2 = 1
            """);
    }

    private static void fineOnTheFirstDays() {
        Run.of("0 if it is due on it at most for the first day", 9).play(HOUSE)
            .each("fine 0 ?", "0", 0, 1, 49, 50)
            .play("fine 0 51 = 9");
    }

    private static void fineOfTheThreeRates() {
        Run.of("RATE cents (for days 1 .. 10 behind it)", 9).play(HOUSE)
            .play("fine 0 51 = 9\nfine 0 52 = 18\nfine 0 59 = 81\nfine 0 60 = 90");
        Run.of("then twice that (11 .. 30)", 9).play(HOUSE)
            .play("fine 0 60 = 90\nfine 0 61 = 108\nfine 0 62 = 126\nfine 0 79 = 432\nfine 0 80 = 450");
        Run.of("then four times", 9).play(HOUSE)
            .play("fine 0 80 = 450\nfine 0 81 = 486\nfine 0 82 = 522\nfine 0 1000 = 33570");
    }

    private static void fineAtMost() {
        // Rate 1: 50 for 30 days, then 4 a day; too few days to come to the greatest fine.
        Run.of("at most 1000000: the last day, rate 1", 1).play(HOUSE).play("fine 0 100000 = 399730");
        // Rate 500: 25000 for 30 days, then 2000 a day: 975000 / 2000 days are not whole.
        Run.of("at most 1000000: it is met", 500).play(HOUSE)
            .play("fine 0 566 = 997000\nfine 0 567 = 999000\nfine 0 568 = 1000000\nfine 0 569 = 1000000");
        Run.of("at most 1000000: it is hit", 1000).play(HOUSE)
            .play("fine 0 317 = 998000\nfine 0 318 = 1000000\nfine 0 319 = 1000000");
        Run.of("at most 1000000: the last day, rate 1000", 1000).play(HOUSE).play("fine 0 100000 = 1000000");
    }

    private static void fineAfterATest() {
        Run.of("a fine ends with the test", 9).play(HOUSE)
            .play("fine 0 61 = 108\ntour 0 61 = 1\ndone = 0\nfine 0 61 = 0\nfine 0 111 = 0\nfine 0 112 = 9");
        Run.of("a fine by hours", 9).play(HOUSE)
            .play("used 0 20 100 = 100\nfine 0 20 = 0\nfine 0 21 = 9");
    }

    private static void wantedAboveThoseThatThereAre() {
        String three = """
            place 0 0 0 = 0
            part 0 0 2 50 100 10 = 0
            part 0 1 2 50 100 10 = 1
            part 0 2 2 50 100 10 = 2
            """;
        Run.of("wanted: none there", 1).play(three).play("wanted 2 50 = 3");
        Run.of("wanted: one there", 1).play(three).play("stock 2 1 = 1\nwanted 2 50 = 2");
        Run.of("wanted: one too few", 1).play(three).play("stock 2 2 = 2\nwanted 2 50 = 1");
        Run.of("wanted: 0 if there are enough, just", 1).play(three).play("stock 2 3 = 3\nwanted 2 50 = 0");
        Run.of("wanted: 0 if there are enough, and one", 1).play(three).play("stock 2 4 = 4\nwanted 2 50 = 0");
        Run.of("wanted: things of another kind do not help", 1).play(three)
            .play("stock 1 3 = 3\nstock 3 3 = 3\nwanted 2 50 = 3\nwanted 1 50 = 0\nwanted 3 50 = 0");
        Run.of("wanted: no part at all", 1).play("wanted 2 0 = 0\nwanted 2 100000 = 0");
    }

    private static void wantedForAllPartsThatAreDue() {
        // More than 7, no walk, no person with the skill: wanted does not look at tours.
        Run.of("wanted for all parts that are due", 1)
            .play("place 0 0 0 = 0\nplace 30 0 0 = 1")
            .playUp(39, "part 1 7 4 50 100 10", 0)
            .play("part 0 0 4 51 100 10 = 39\nwanted 4 49 = 0\nwanted 4 50 = 39\nwanted 4 51 = 40");
    }
}
