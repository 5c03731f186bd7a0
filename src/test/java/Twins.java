import java.util.ArrayList;
import java.util.List;

/**
 * A state, and objects that are brought into it by the same calls. A call that must change nothing
 * is made on one of them; from then on it has to answer like one on which it was not made. The
 * calls asked behind it also change things, for much of a state shows only in that way: how many
 * spare things there are, on which day a part was last told to be used, how many places there are.
 */
final class Twins {
    private static final int RATE = 7;

    private final String title;
    private final List<String> before;
    private final List<List<String>> questions = new ArrayList<>();
    private final List<List<String>> answers = new ArrayList<>();

    Twins(String title, List<String> before) {
        this.title = title;
        this.before = before;
        for (List<String> asked : List.of(looks(), goingOn(), uses(), newTours(), newThings())) {
            questions.add(asked);
            answers.add(answersOf(inState(), asked));
        }
    }

    /** The call has this answer, and changes nothing. */
    void unchangedBy(String call, String want) {
        for (int i = 0; i < questions.size(); i++) {
            CareTours object = inState();
            Run.report(title + ": " + call, Calls.answer(object, call), want);
            compare(call, questions.get(i), answersOf(object, questions.get(i)), answers.get(i));
        }
    }

    /** Numbers in the place of "?" that are out of these bounds, next to them and far away. */
    void outOfBounds(String call, int least, int greatest) {
        for (int number : new int[] {least - 1, greatest + 1, Integer.MIN_VALUE, Integer.MAX_VALUE}) {
            unchangedBy(call.replace("?", Integer.toString(number)), Calls.ARGUMENT);
        }
    }

    private CareTours inState() {
        CareTours object = new CareTours(RATE);
        answersOf(object, before);
        return object;
    }

    private static List<String> answersOf(CareTours object, List<String> calls) {
        List<String> all = new ArrayList<>();
        for (String call : calls) {
            all.add(Calls.answer(object, call));
        }
        return all;
    }

    private void compare(String call, List<String> asked, List<String> got, List<String> want) {
        for (int i = 0; i < asked.size(); i++) {
            Run.report(title + ": behind " + call + ", " + asked.get(i), got.get(i), want.get(i));
        }
    }

    private static void count(List<String> calls, String call, int from, int to) {
        for (int number = from; number <= to; number++) {
            calls.add(call.replace("?", Integer.toString(number)));
        }
    }

    private static void tourUnderWay(List<String> calls) {
        count(calls, "told ?", 0, 4);
        count(calls, "stop ?", 0, 20);
    }

    private static List<String> looks() {
        List<String> calls = new ArrayList<>();
        tourUnderWay(calls);
        count(calls, "late ?", 0, 40);
        count(calls, "due ?", 0, 39);
        count(calls, "fine ? 50", 0, 39);
        for (int day : new int[] {0, 3, 8, 400}) {
            count(calls, "wanted ? " + day, 0, 4);
        }
        count(calls, "walk 0 ?", 0, 29);
        count(calls, "walk ? 29", 0, 29);
        return calls;
    }

    private static List<String> goingOn() {
        List<String> calls = new ArrayList<>();
        for (int i = 0; i < 21; i++) {
            calls.add("done");
        }
        count(calls, "stock ? 20", 0, 4);
        count(calls, "put ?", 0, 39);
        tourUnderWay(calls);
        for (int i = 0; i < 21; i++) {
            calls.add("done");
        }
        count(calls, "due ?", 0, 39);
        return calls;
    }

    private static List<String> uses() {
        List<String> calls = new ArrayList<>();
        for (int day : new int[] {0, 2, 3, 6, 7, 8, 100}) {
            count(calls, "used ? " + day + " 1", 0, 39);
        }
        count(calls, "due ?", 0, 39);
        return calls;
    }

    private static List<String> newTours() {
        List<String> calls = new ArrayList<>();
        for (int person = 0; person < 8; person++) {
            calls.add("tour " + person + " 8");
            tourUnderWay(calls);
        }
        return calls;
    }

    /** So many of each that the last ones are too many: that tells how many there were. */
    private static List<String> newThings() {
        List<String> calls = new ArrayList<>();
        count(calls, "place 2 ? ?", 1, 31);
        count(calls, "lift ? ? 0 2 1 1", 1, 7);
        count(calls, "part 0 0 0 ? 1 1", 1, 41);
        count(calls, "person 255 0 ?", 101, 109);
        count(calls, "walk 0 ?", 0, 29);
        count(calls, "late ?", 0, 40);
        calls.add("tour 7 50");
        tourUnderWay(calls);
        return calls;
    }
}
