/**
 * Nothing there yet, and all there may be: of places, lifts, parts, persons, stops, spare things
 * and calls. A title is the document's sentence.
 */
public final class FewAndManyTest {
    private static final int CALLS = 512;

    public static void main(String[] args) {
        places();
        lifts();
        parts();
        persons();
        stopsOfATour();
        stopsPutIn();
        spareThings();
        manyOfOneCall();
        everyCallAsTheLast();
        laterCalls();
        Run.end();
    }

    private static void places() {
        Run.of("PLACES: none yet", 1).play("""
            walk 0 0 = argument
            part 0 0 0 1 1 1 = argument
            person 1 0 1 = argument
            """);
        Run.of("PLACES are 0 .. 29; illegal state: there are 30", 1)
            .playUp(29, "place 0 0 0", 0)
            .each("walk ? 0", "argument", 29, 30)
            .each("part ? 0 0 1 1 1", "argument", 29, 30)
            .each("person 1 ? 1", "argument", 29, 30)
            .play("""
                place 0 8 0 = 29
                walk 29 0 = 8
                walk 0 29 = 8
                part 29 0 0 1 1 1 = 0
                person 1 29 1 = 0
                tour 0 1 = 1
                place 0 0 0 = state
                place 30 100 100 = state
                place 31 0 0 = argument         # named first
                """)
            .each("walk ? 0", "argument", 30, 31)
            .each("part ? 0 0 1 1 1", "argument", 30, 31)
            .each("person 1 ? 1", "argument", 30, 31)
            .stops(0);
    }

    private static void lifts() {
        Run.of("LIFTS are 0 .. 5; illegal state: there are 6", 1)
            .play("place 0 0 0 = 0\nplace 1 0 0 = 1\nwalk 0 1 = -1")
            .playUp(5, "lift 0 0 2 3 0 0", 0)
            .play("""
                walk 0 1 = -1
                lift 0 0 0 1 9 0 = 5
                walk 0 1 = 9
                lift 0 0 0 1 0 0 = state
                walk 0 1 = 9
                lift 0 0 1 0 0 0 = argument     # named first
                """);
        Run.of("LIFTS: the first of six is still used", 1)
            .play("place 0 0 0 = 0\nplace 1 0 0 = 1\nlift 0 0 0 1 9 0 = 0")
            .playUp(5, "lift 0 0 0 1 10 0", 1)
            .play("walk 0 1 = 9");
    }

    private static void parts() {
        Run.of("PARTS: none yet", 1).play("""
            place 0 0 0 = 0
            person 255 0 100000 = 0
            used 0 0 1 = argument
            due 0 = argument
            fine 0 0 = argument
            late 0 = -1
            wanted 0 100000 = 0
            tour 0 100000 = 0
            put 0 = argument
            """);
        Run.of("PARTS are 0 .. 39; illegal state: there are 40", 1)
            .play("place 0 0 0 = 0\nperson 3 0 100000 = 0")
            .playUp(39, "part 0 0 0 5 9 1", 0)
            .play("late 39 = -1\nlate 38 = 38")
            .each("due ?", "argument", 39, 40)
            .play("""
                part 0 1 4 4 9 1 = 39
                due 39 = 4
                late 0 = 39
                late 39 = 38
                late 40 = -1
                fine 39 5 = 1
                wanted 4 4 = 1
                tour 0 4 = 1
                part 0 0 0 1 1 1 = state
                part 30 0 0 1 1 1 = argument    # named first
                used 39 3 9 = 9
                due 39 = 3
                used 40 3 9 = argument
                due 40 = argument
                fine 40 3 = argument
                put 40 = argument
                """)
            .stops(39);
    }

    private static void persons() {
        Run.of("PERSONS: none yet", 1).play("tour 0 0 = argument\ntold 4 = -1");
        Run.of("PERSONS are 0 .. 7; illegal state: there are 8", 1)
            .play("place 0 0 0 = 0\npart 0 3 0 1 1 1 = 0")
            .playUp(7, "person 1 0 100000", 0)
            .each("tour ? 1", "argument", 7, 8)
            .play("""
                person 8 0 100000 = 7
                tour 7 1 = 1
                told 4 = 7
                person 8 0 100000 = state
                told 4 = 7
                person 256 0 100000 = argument  # named first
                tour 8 1 = argument
                told 4 = 7
                """)
            .stops(0);
    }

    private static final String ALIKE = "place 0 0 0 = 0\nperson 1 0 100000 = 0";

    private static void stopsOfATour() {
        Run.of("stops of a tour: none", 1).play(ALIKE).play("tour 0 400 = 0").stops();
        Run.of("stops of a tour: one", 1).play(ALIKE)
            .playUp(1, "part 0 0 0 5 1 1", 0).play("tour 0 400 = 1").stops(0);
        Run.of("the first 7 of them: six", 1).play(ALIKE)
            .playUp(6, "part 0 0 0 5 1 1", 0).play("tour 0 400 = 6").stops(0, 1, 2, 3, 4, 5);
        Run.of("the first 7 of them: seven", 1).play(ALIKE)
            .playUp(7, "part 0 0 0 5 1 1", 0).play("tour 0 400 = 7").stops(0, 1, 2, 3, 4, 5, 6);
        Run.of("the first 7 of them: eight", 1).play(ALIKE)
            .playUp(8, "part 0 0 0 5 1 1", 0).play("tour 0 400 = 7").stops(0, 1, 2, 3, 4, 5, 6);
        Run.of("the first 7 of them: forty", 1).play(ALIKE)
            .playUp(40, "part 0 0 0 5 1 1", 0).play("tour 0 400 = 7").stops(0, 1, 2, 3, 4, 5, 6);
    }

    private static void stopsPutIn() {
        Run run = Run.of("illegal state: there are 20 stops", 1).play(ALIKE)
            .playUp(40, "part 0 0 0 5 1 1", 0)
            .play("tour 0 0 = 0");
        for (int part = 0; part < 20; part++) {
            run.play("told 0 = " + part + "\nput " + part + " = 0");
        }
        run.each("put ?", "state", 20, 21, 39)
            .stops(19, 18, 17, 16, 15, 14, 13, 12, 11, 10, 9, 8, 7, 6, 5, 4, 3, 2, 1, 0)
            .play("stock 0 20 = 20");
        for (int part = 19; part >= 0; part--) {
            run.play("done = " + part);
        }
        run.play("done = state\ntold 3 = 20\nstop 19 = 0\nput 20 = state   # though all are done");
    }

    private static void spareThings() {
        Run.of("STOCK, 0 at first", 1).play(ALIKE)
            .each("stock ? 1", "1", 0, 1, 2, 3, 4);
        Run.of("STOCK, 0 at first: nothing to take", 1).play(ALIKE)
            .playUp(2, "part 0 0 3 5 1 1", 0)
            .play("""
                tour 0 5 = 2
                done = -2
                stock 3 1 = 1
                done = 0
                done = -2
                stock 3 1 = 1
                done = 1
                """);
    }

    private static void manyOfOneCall() {
        Run stock = Run.of("512 calls of stock", 1);
        for (int i = 1; i <= CALLS; i++) {
            stock.play("stock 4 1000 = " + 1000 * i);
        }
        Run used = Run.of("512 calls, 510 of used", 1).play("place 0 0 0 = 0\npart 0 0 0 400 10000 1 = 0");
        for (int i = 1; i <= CALLS - 2; i++) {
            used.play("used 0 " + i + " 1000 = " + 1000 * i);
        }
        Run tours = Run.of("512 calls, 254 of tour and of done", 1).play(ALIKE)
            .play("part 0 0 0 1 1 1 = 0\nstock 0 1000 = 1000");
        for (int i = 1; i <= (CALLS - 4) / 2; i++) {
            tours.play("tour 0 " + i + " = 1\ndone = 0");
        }
        Run refused = Run.of("512 calls, 511 refused", 1);
        for (int i = 1; i < CALLS; i++) {
            refused.play(i % 2 == 0 ? "place 31 0 0 = argument" : "done = state");
        }
        refused.play("place 30 0 0 = 0");
    }

    /** 17 calls: part 0 is due on day 5 and a stop, part 1 is not. */
    private static final String HOUSE = """
        place 0 0 0 = 0
        place 0 6 0 = 1
        place 4 0 0 = 2
        lift 3 0 0 4 1 1 = 0
        person 1 0 100000 = 0
        part 1 0 0 5 10 7 = 0
        part 2 0 1 90 10 7 = 1
        stock 0 3 = 3
        used 0 1 2 = 2
        wanted 0 5 = 0
        due 0 = 5
        late 0 = 0
        fine 0 6 = 1
        tour 0 8 = 1
        told 2 = 7
        stop 0 = 0
        walk 1 2 = 11
        """;

    private static void everyCallAsTheLast() {
        String[] lastCalls = {
            "place 1 1 1 = 3", "lift 0 0 0 4 0 0 = 1", "part 0 0 0 1 1 1 = 2", "person 0 0 0 = 1",
            "used 0 2 8 = 10", "stock 0 1 = 4", "walk 0 2 = 11", "tour 0 90 = 2", "stop 0 = 0",
            "told 1 = 12", "put 1 = 16", "done = 0", "due 1 = 90", "late 1 = 1", "fine 0 100 = 310",
            "wanted 1 90 = 1", "place 0 0 101 = argument", "used 0 0 1 = argument", "put 0 = state",
            "late 2 = -1",
        };
        for (String last : lastCalls) {
            Run.of("used for at most 512 calls", 1).play(HOUSE)
                .playUp(CALLS - 17 - 1, "stock 4 1", 1)
                .play(last);
        }
    }

    /** What they answer is free, but nothing other than the two exceptions may come out of them. */
    private static void laterCalls() {
        CareTours object = new CareTours(1000);
        String[] calls = {
            "place 0 1 1", "lift 0 0 0 4 0 0", "part 0 0 0 1 1 1", "person 255 0 100000", "stock 0 1000",
            "used 0 100000 1000", "walk 0 29", "tour 0 100000", "put 9", "put 8", "done", "stop 0",
            "told 4", "due 39", "late 39", "fine 39 100000", "wanted 0 100000", "stop 19", "tour 7 0",
        };
        for (int i = 0; i < 20 * CALLS; i++) {
            String call = calls[i % calls.length];
            String answer = Calls.answer(object, call);
            if (answer.startsWith("broken")) {
                Run.report("later calls: " + call, answer, "a number, argument or state");
            }
        }
    }
}
