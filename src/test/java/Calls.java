/** Calls of the face by name, with the answer as a text, so that runs can be written as texts. */
final class Calls {
    static final String ARGUMENT = "argument";
    static final String STATE = "state";

    private Calls() {
    }

    static String answer(CareTours x, String name, int... a) {
        try {
            return Integer.toString(call(x, name, a));
        } catch (RuntimeException e) {
            // Exactly these classes: what the machine throws has other ones.
            if (e.getClass() == IllegalArgumentException.class) {
                return ARGUMENT;
            }
            if (e.getClass() == IllegalStateException.class) {
                return STATE;
            }
            return "broken by " + e;
        }
    }

    /** A call that is written as a text: "walk 0 2". */
    static String answer(CareTours x, String call) {
        String[] words = call.split(" +");
        int[] numbers = new int[words.length - 1];
        for (int i = 0; i < numbers.length; i++) {
            numbers[i] = Integer.parseInt(words[i + 1]);
        }
        return answer(x, words[0], numbers);
    }

    static String text(String name, int... a) {
        StringBuilder text = new StringBuilder(name);
        for (int number : a) {
            text.append(' ').append(number);
        }
        return text.toString();
    }

    private static int call(CareTours x, String name, int[] a) {
        return switch (name) {
            case "place" -> x.place(a[0], a[1], a[2]);
            case "lift" -> x.lift(a[0], a[1], a[2], a[3], a[4], a[5]);
            case "part" -> x.part(a[0], a[1], a[2], a[3], a[4], a[5]);
            case "person" -> x.person(a[0], a[1], a[2]);
            case "used" -> x.used(a[0], a[1], a[2]);
            case "stock" -> x.stock(a[0], a[1]);
            case "walk" -> x.walk(a[0], a[1]);
            case "tour" -> x.tour(a[0], a[1]);
            case "stop" -> x.stop(a[0]);
            case "told" -> x.told(a[0]);
            case "put" -> x.put(a[0]);
            case "done" -> x.done();
            case "due" -> x.due(a[0]);
            case "late" -> x.late(a[0]);
            case "fine" -> x.fine(a[0], a[1]);
            case "wanted" -> x.wanted(a[0], a[1]);
            default -> throw new AssertionError("no call " + name);
        };
    }
}
