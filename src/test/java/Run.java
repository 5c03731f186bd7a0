/**
 * A run of calls on one object, written as a text: a call a line, "walk 0 2 = 20"; the answers
 * "argument" and "state" are the two exceptions. Behind "#" stands a comment.
 */
final class Run {
    private static final int MOST_CALLS = 512;

    private static int wrong = 0;

    private final String title;
    private final CareTours tours;
    private int calls = 0;

    private Run(String title, int rate) {
        this.title = title;
        this.tours = new CareTours(rate);
    }

    static Run of(String title, int rate) {
        return new Run(title, rate);
    }

    Run play(String script) {
        for (String line : script.split("\n")) {
            String row = line.replaceFirst("#.*", "").trim();
            if (!row.isEmpty()) {
                String[] halves = row.split(" = ");
                check(halves[0].trim(), halves[1].trim());
            }
        }
        return this;
    }

    /** The same call some times, with answers that begin at a number and go up by one. */
    Run playUp(int times, String call, int first) {
        for (int i = 0; i < times; i++) {
            check(call, Integer.toString(first + i));
        }
        return this;
    }

    /** One call with each of some numbers in the place of "?", all with the same answer. */
    Run each(String call, String want, int... numbers) {
        for (int number : numbers) {
            check(call.replace("?", Integer.toString(number)), want);
        }
        return this;
    }

    /** What stop tells from 0 on, and that there are no more. */
    Run stops(int... parts) {
        for (int k = 0; k < parts.length; k++) {
            check("stop " + k, Integer.toString(parts[k]));
        }
        check("stop " + parts.length, Calls.ARGUMENT);
        return check("told 0", Integer.toString(parts.length));
    }

    private Run check(String call, String want) {
        report(title + ": " + call, Calls.answer(tours, call), want);
        calls++;
        if (calls > MOST_CALLS) {
            report(title + ": " + call, "call " + calls, "at most 512 calls, later ones are free");
        }
        return this;
    }

    static void report(String what, String got, String want) {
        if (!got.equals(want)) {
            wrong++;
            System.out.println(what + " answered " + got + ", due is " + want);
        }
    }

    static void end() {
        if (wrong != 0) {
            System.out.println(wrong + " answers are not as due");
            System.exit(1);
        }
    }
}
