import java.util.ArrayList;
import java.util.Comparator;
import java.util.List;

/**
 * The document once more, as slow and plain as can be, to compare the class with: it keeps what
 * was told, tries all orders of a tour, and sums up all walks anew each time.
 */
final class Model {
    private record Place(int floor, int x, int y) {
    }

    private record Lift(int x, int y, int least, int greatest, int pause, int speed) {
    }

    private record Person(int skills, int home, int seconds) {
    }

    private record Use(int day, int hours) {
    }

    private static final class Part {
        int place;
        int skill;
        int kind;
        int every;
        int hours;
        int work;
        int tested;
        List<Use> uses = new ArrayList<>();
    }

    private static final class Refused extends RuntimeException {
        private static final long serialVersionUID = 1;

        Refused(String kind) {
            super(kind);
        }
    }

    private final int rate;
    private final List<Place> places = new ArrayList<>();
    private final List<Lift> lifts = new ArrayList<>();
    private final List<Part> parts = new ArrayList<>();
    private final List<Person> persons = new ArrayList<>();
    private final int[] spares = new int[5];

    private boolean underWay = false;
    private int goer;
    private int tourDay;
    private int doneStops;
    private List<Integer> stops = new ArrayList<>();

    Model(int rate) {
        this.rate = rate < 0 ? 0 : rate > 1000 ? 1000 : rate;
    }

    String answer(String name, int... a) {
        try {
            return Integer.toString(call(name, a));
        } catch (Refused e) {
            return e.getMessage();
        }
    }

    int stopCount() {
        return underWay ? stops.size() : 0;
    }

    int partCount() {
        return parts.size();
    }

    int placeCount() {
        return places.size();
    }

    int personCount() {
        return persons.size();
    }

    int liftCount() {
        return lifts.size();
    }

    /** How many parts a tour would choose from if there were no seven, walks and seconds. */
    int candidates(int person, int day) {
        return choice(person, day).size();
    }

    private int call(String name, int[] a) {
        return switch (name) {
            case "place" -> place(a);
            case "lift" -> lift(a);
            case "part" -> part(a);
            case "person" -> person(a);
            case "used" -> used(a[0], a[1], a[2]);
            case "stock" -> stock(a[0], a[1]);
            case "walk" -> walk(a[0], a[1]);
            case "tour" -> tour(a[0], a[1]);
            case "stop" -> stop(a[0]);
            case "told" -> told(a[0]);
            case "put" -> put(a[0]);
            case "done" -> done();
            case "due" -> dueDay(partOf(a[0]));
            case "late" -> late(a[0]);
            case "fine" -> fine(a[0], a[1]);
            case "wanted" -> wanted(a[0], a[1]);
            default -> throw new AssertionError(name);
        };
    }

    private static void bound(int number, int least, int greatest) {
        if (number < least || number > greatest) {
            throw new Refused(Calls.ARGUMENT);
        }
    }

    private static void state(boolean allowed) {
        if (!allowed) {
            throw new Refused(Calls.STATE);
        }
    }

    private Part partOf(int number) {
        bound(number, 0, parts.size() - 1);
        return parts.get(number);
    }

    private int place(int[] a) {
        bound(a[0], 0, 30);
        bound(a[1], 0, 100);
        bound(a[2], 0, 100);
        state(places.size() < 30);
        places.add(new Place(a[0], a[1], a[2]));
        underWay = false;
        return places.size() - 1;
    }

    private int lift(int[] a) {
        bound(a[0], 0, 100);
        bound(a[1], 0, 100);
        bound(a[2], 0, 30);
        bound(a[3], a[2], 30);
        bound(a[4], 0, 100);
        bound(a[5], 0, 100);
        state(lifts.size() < 6);
        lifts.add(new Lift(a[0], a[1], a[2], a[3], a[4], a[5]));
        underWay = false;
        return lifts.size() - 1;
    }

    private int part(int[] a) {
        bound(a[0], 0, places.size() - 1);
        bound(a[1], 0, 7);
        bound(a[2], 0, 4);
        bound(a[3], 1, 400);
        bound(a[4], 1, 10000);
        bound(a[5], 1, 7200);
        state(parts.size() < 40);
        Part part = new Part();
        part.place = a[0];
        part.skill = a[1];
        part.kind = a[2];
        part.every = a[3];
        part.hours = a[4];
        part.work = a[5];
        parts.add(part);
        return parts.size() - 1;
    }

    private int person(int[] a) {
        bound(a[0], 0, 255);
        bound(a[1], 0, places.size() - 1);
        bound(a[2], 0, 100000);
        state(persons.size() < 8);
        persons.add(new Person(a[0], a[1], a[2]));
        underWay = false;
        return persons.size() - 1;
    }

    private int used(int number, int day, int hours) {
        Part part = partOf(number);
        bound(day, part.tested, 100000);
        for (Use use : part.uses) {
            bound(day, use.day, 100000);
        }
        bound(hours, 1, 1000);
        part.uses.add(new Use(day, hours));
        return part.uses.stream().mapToInt(Use::hours).sum();
    }

    private static int dueDay(Part part) {
        int day = part.tested + part.every;
        int sum = 0;
        for (Use use : part.uses) {
            sum += use.hours;
            if (sum >= part.hours && use.day < day) {
                day = use.day;
            }
        }
        return day;
    }

    private int stock(int kind, int n) {
        bound(kind, 0, 4);
        bound(n, 1, 1000);
        return spares[kind] += n;
    }

    private int walk(int from, int to) {
        bound(from, 0, places.size() - 1);
        bound(to, 0, places.size() - 1);
        Place a = places.get(from);
        Place b = places.get(to);
        if (a.floor == b.floor) {
            return Math.abs(a.x - b.x) + Math.abs(a.y - b.y);
        }
        return lifts.stream()
            .filter(l -> l.least <= Math.min(a.floor, b.floor) && l.greatest >= Math.max(a.floor, b.floor))
            .mapToInt(l -> Math.abs(a.x - l.x) + Math.abs(a.y - l.y) + l.pause
                + l.speed * Math.abs(a.floor - b.floor) + Math.abs(b.x - l.x) + Math.abs(b.y - l.y))
            .min().orElse(-1);
    }

    /** The walks from home by these stops and home again; -1 if one of them is none. */
    private int walks(int person, List<Integer> order) {
        if (order.isEmpty()) {
            return 0;
        }
        int sum = 0;
        int at = persons.get(person).home;
        for (int k = 0; k <= order.size(); k++) {
            int next = k < order.size() ? parts.get(order.get(k)).place : persons.get(person).home;
            int leg = walk(at, next);
            if (leg < 0) {
                return -1;
            }
            sum += leg;
            at = next;
        }
        return sum;
    }

    private int work(List<Integer> order) {
        return order.stream().mapToInt(number -> parts.get(number).work).sum();
    }

    private List<Integer> ranked() {
        List<Integer> all = new ArrayList<>();
        for (int i = 0; i < parts.size(); i++) {
            all.add(i);
        }
        all.sort(Comparator.comparingInt((Integer i) -> dueDay(parts.get(i))).thenComparingInt(i -> i));
        return all;
    }

    private List<Integer> choice(int person, int day) {
        Person who = persons.get(person);
        List<Integer> may = new ArrayList<>();
        for (int number : ranked()) {
            Part part = parts.get(number);
            if (dueDay(part) <= day && (who.skills & 1 << part.skill) != 0
                    && walk(who.home, part.place) >= 0) {
                may.add(number);
            }
        }
        return may;
    }

    private int tour(int person, int day) {
        bound(person, 0, persons.size() - 1);
        bound(day, 0, 100000);
        List<Integer> chosen = choice(person, day);
        while (chosen.size() > 7) {
            chosen.remove(chosen.size() - 1);
        }
        List<Integer> order = bestOrder(person, chosen);
        while (order == null || walks(person, order) + work(order) > persons.get(person).seconds) {
            if (chosen.isEmpty()) {
                break;
            }
            chosen.remove(chosen.size() - 1);
            order = bestOrder(person, chosen);
        }
        underWay = true;
        goer = person;
        tourDay = day;
        doneStops = 0;
        stops = order;
        return stops.size();
    }

    private List<Integer> bestOrder(int person, List<Integer> chosen) {
        List<Integer> byNumbers = new ArrayList<>(chosen);
        byNumbers.sort(Comparator.naturalOrder());
        Best best = new Best();
        tryAll(person, new ArrayList<>(), byNumbers, best);
        return best.order;
    }

    private static final class Best {
        List<Integer> order = null;
        int walks;
    }

    /** Orders come by the parts' numbers, so that a later one must be less. */
    private void tryAll(int person, List<Integer> begun, List<Integer> left, Best best) {
        if (left.isEmpty()) {
            int sum = walks(person, begun);
            if (sum >= 0 && (best.order == null || sum < best.walks)) {
                best.order = new ArrayList<>(begun);
                best.walks = sum;
            }
            return;
        }
        for (int i = 0; i < left.size(); i++) {
            Integer number = left.remove(i);
            begun.add(number);
            tryAll(person, begun, left, best);
            begun.remove(begun.size() - 1);
            left.add(i, number);
        }
    }

    private int stop(int k) {
        bound(k, 0, stopCount() - 1);
        return stops.get(k);
    }

    private int told(int what) {
        bound(what, 0, 4);
        if (!underWay) {
            return what == 4 ? -1 : 0;
        }
        return switch (what) {
            case 0 -> stops.size();
            case 1 -> walks(goer, stops);
            case 2 -> work(stops);
            case 3 -> doneStops;
            default -> goer;
        };
    }

    private int put(int number) {
        Part part = partOf(number);
        state(underWay && !stops.contains(number));
        state((persons.get(goer).skills & 1 << part.skill) != 0 && stops.size() < 20);
        int before = walks(goer, stops);
        List<Integer> best = null;
        for (int gap = doneStops; gap <= stops.size(); gap++) {
            List<Integer> longer = new ArrayList<>(stops);
            longer.add(gap, number);
            int sum = walks(goer, longer);
            if (sum >= 0 && (best == null || sum < walks(goer, best))) {
                best = longer;
            }
        }
        if (best == null) {
            return -2;
        }
        stops = best;
        return walks(goer, stops) - before;
    }

    private int done() {
        state(underWay && doneStops < stops.size());
        int number = stops.get(doneStops);
        Part part = parts.get(number);
        if (spares[part.kind] == 0) {
            return -2;
        }
        spares[part.kind]--;
        doneStops++;
        part.tested = tourDay;
        part.uses.clear();
        return number;
    }

    private int late(int k) {
        bound(k, 0, Integer.MAX_VALUE);
        return k < parts.size() ? ranked().get(k) : -1;
    }

    private int fine(int number, int day) {
        int due = dueDay(partOf(number));
        bound(day, 0, 100000);
        long cents = 0;
        for (int behind = 1; behind <= day - due; behind++) {
            cents += behind <= 10 ? rate : behind <= 30 ? 2L * rate : 4L * rate;
        }
        return (int) Math.min(cents, 1000000);
    }

    private int wanted(int kind, int day) {
        bound(kind, 0, 4);
        bound(day, 0, 100000);
        int tests = 0;
        for (Part part : parts) {
            tests += part.kind == kind && dueDay(part) <= day ? 1 : 0;
        }
        return Math.max(0, tests - spares[kind]);
    }
}
