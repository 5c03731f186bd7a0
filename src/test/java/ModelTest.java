import java.util.Map;
import java.util.Random;
import java.util.TreeMap;

/**
 * All promises at once: runs of 512 calls, made from fixed seeds, with the answers of the class
 * beside those of the model. It also fails if one of the rare events below never came up.
 */
public final class ModelTest {
    private static final int RUNS = 400;
    private static final int CALLS = 512;
    private static final String[] EVENTS = {
        "tour of 7", "tour from more than 7", "tour with some left out", "tour without stops",
        "put longer", "put for nothing", "put shorter", "put shorter by 2", "put not possible",
        "put refused", "put behind done stops", "20 stops", "done", "done without a spare thing",
        "done refused", "used refused", "fine at its greatest", "wanted",
    };

    private final Random random;
    private final Model model;
    private final CareTours tours;
    private final Map<String, Integer> events;
    private final int floors;
    private final int width;
    private final int days;
    private int day = 0;

    private ModelTest(long seed, Map<String, Integer> events) {
        this.random = new Random(seed);
        this.events = events;
        this.floors = new int[] {1, 2, 3, 4, 31}[random.nextInt(5)];
        this.width = new int[] {2, 5, 20, 101}[random.nextInt(4)];
        this.days = new int[] {3, 10, 400}[random.nextInt(3)];
        int rate = new int[] {-5, 0, 1, 30, 1000, 5000}[random.nextInt(6)];
        this.model = new Model(rate);
        this.tours = new CareTours(rate);
    }

    public static void main(String[] args) {
        Map<String, Integer> events = new TreeMap<>();
        for (int seed = 1; seed <= RUNS; seed++) {
            new ModelTest(seed, events).run("seed " + seed);
        }
        for (String event : EVENTS) {
            if (!events.containsKey(event)) {
                Run.report("how often: " + event, "never", "some times");
            }
        }
        if (args.length > 0) {
            System.out.println(events);
        }
        Run.end();
    }

    private void run(String title) {
        for (int i = 0; i < CALLS; i++) {
            String name = name(i);
            int[] a = numbers(name);
            if (random.nextInt(40) == 0 && a.length > 0) {
                a[random.nextInt(a.length)] = odd();
            }
            note(name, a, check(title + ", call " + i, name, a));
        }
    }

    private String check(String title, String name, int[] a) {
        if (name.equals("tour") && inBounds(a)) {
            int may = model.candidates(a[0], a[1]);
            note(may > 7, "tour from more than 7");
            String want = compare(title, name, a);
            note(Integer.parseInt(want) < Math.min(may, 7), "tour with some left out");
            return want;
        }
        return compare(title, name, a);
    }

    private boolean inBounds(int[] a) {
        return a[0] >= 0 && a[0] < model.personCount() && a[1] >= 0 && a[1] <= 100000;
    }

    private String compare(String title, String name, int[] a) {
        int doneBefore = Integer.parseInt(model.answer("told", 3));
        String want = model.answer(name, a);
        Run.report(title + ": " + Calls.text(name, a), Calls.answer(tours, name, a), want);
        note(name.equals("put") && doneBefore > 0 && !want.equals(Calls.STATE), "put behind done stops");
        return want;
    }

    private void note(boolean happened, String event) {
        if (happened) {
            events.merge(event, 1, Integer::sum);
        }
    }

    private void note(String name, int[] a, String answer) {
        boolean refused = answer.equals(Calls.ARGUMENT) || answer.equals(Calls.STATE);
        int number = refused ? 0 : Integer.parseInt(answer);
        note(model.stopCount() == 20, "20 stops");
        note(refused, name + " refused");
        if (refused) {
            return;
        }
        switch (name) {
            case "tour" -> {
                note(number == 7, "tour of 7");
                note(number == 0, "tour without stops");
            }
            case "put" -> {
                boolean isIn = false;
                for (int k = 0; k < model.stopCount(); k++) {
                    isIn |= model.answer("stop", k).equals(Integer.toString(a[0]));
                }
                note(!isIn, "put not possible");
                note(isIn && number > 0, "put longer");
                note(isIn && number == 0, "put for nothing");
                note(isIn && number < 0, "put shorter");
                note(isIn && number == -2, "put shorter by 2");
            }
            case "done" -> note(true, number == -2 ? "done without a spare thing" : "done");
            case "fine" -> note(number == 1000000, "fine at its greatest");
            case "wanted" -> note(number > 0, "wanted");
            default -> {
            }
        }
    }

    /** Things come early in a run, since a place, lift or person ends a tour. */
    private String name(int i) {
        String[] early = {"place", "place", "place", "part", "part", "part", "lift", "person", "stock"};
        String[] later = {
            "used", "used", "stock", "walk", "tour", "stop", "stop", "told", "told", "put", "put", "put",
            "put", "done", "done", "done", "due", "late", "fine", "wanted", "part",
        };
        String[] rare = {"place", "lift", "person"};
        if (i < 60 || random.nextInt(60) == 0 && random.nextInt(60) < 20) {
            return early[random.nextInt(early.length)];
        }
        return random.nextInt(100) == 0 ? rare[random.nextInt(3)] : later[random.nextInt(later.length)];
    }

    private int[] numbers(String name) {
        day = Math.min(100000, day + random.nextInt(20) / 19 * random.nextInt(days));
        return switch (name) {
            case "place" -> row(floor(), spot(), spot());
            case "lift" -> lift();
            case "part" -> row(some(model.placeCount()), random.nextInt(4), random.nextInt(5),
                1 + random.nextInt(days), 1 + random.nextInt(50), 1 + random.nextInt(80));
            case "person" -> row(random.nextInt(4) == 0 ? random.nextInt(256) : 255,
                some(model.placeCount()), random.nextInt(3) == 0 ? random.nextInt(600) : 100000);
            case "used" -> row(some(model.partCount()), near(), 1 + random.nextInt(30));
            case "stock" -> row(random.nextInt(5), 1 + random.nextInt(3));
            case "walk" -> row(some(model.placeCount()), some(model.placeCount()));
            case "tour" -> row(some(model.personCount()), near());
            case "stop" -> row(some(model.stopCount() + 1));
            case "told" -> row(random.nextInt(5));
            case "put", "due" -> row(some(model.partCount()));
            case "done" -> row();
            case "late" -> row(some(model.partCount() + 2));
            case "fine" -> row(some(model.partCount()), random.nextInt(5) == 0 ? random.nextInt(100001) : near());
            case "wanted" -> row(random.nextInt(5), near());
            default -> throw new AssertionError(name);
        };
    }

    private static int[] row(int... numbers) {
        return numbers;
    }

    private int[] lift() {
        int a = floor();
        int b = floor();
        boolean wrong = random.nextInt(30) == 0;
        return row(spot(), spot(), wrong ? b : Math.min(a, b), wrong ? a : Math.max(a, b),
            random.nextInt(width), random.nextInt(5));
    }

    private int floor() {
        return random.nextInt(floors);
    }

    private int spot() {
        return random.nextInt(width);
    }

    private int near() {
        return Math.max(0, Math.min(100000, day + random.nextInt(7) - 2));
    }

    /** A number that there is, mostly. */
    private int some(int count) {
        return random.nextInt(30) == 0 ? count : random.nextInt(Math.max(1, count));
    }

    private int odd() {
        int[] odd = {
            -1, 0, 1, 4, 5, 6, 7, 8, 20, 29, 30, 31, 39, 40, 100, 101, 255, 256, 400, 401, 1000, 1001, 7200,
            7201, 10000, 10001, 100000, 100001, Integer.MAX_VALUE, Integer.MIN_VALUE,
        };
        return odd[random.nextInt(odd.length)];
    }
}
