/**
 * Care of a house: parts to be tested by days and by hours of use, who may test them, tours from
 * one to the next by stairs of lifts with the least walking, calls put into a tour that is under
 * way, stock of spare things, fines for what is late.
 */
public final class CareTours {

    /** There is none. */
    public static final int NONE = -1;

    private static final int CANNOT = -2;

    private static final int MOST_PLACES = 30;
    private static final int MOST_LIFTS = 6;
    private static final int MOST_PARTS = 40;
    private static final int MOST_PERSONS = 8;
    private static final int MOST_STOPS = 20;

    private static final int GREATEST_RATE = 1000;
    private static final int GREATEST_FLOOR = 30;
    private static final int GREATEST_COORDINATE = 100;
    private static final int GREATEST_LIFT_TIME = 100;
    private static final int GREATEST_SKILL = 7;
    private static final int ALL_SKILLS = 255;
    private static final int GREATEST_KIND = 4;
    private static final int GREATEST_EVERY = 400;
    private static final int GREATEST_HOURS = 10000;
    private static final int GREATEST_WORK = 7200;
    private static final int GREATEST_SECONDS = 100000;
    private static final int GREATEST_USE = 1000;
    private static final int GREATEST_DELIVERY = 1000;
    private static final int GREATEST_DAY = 100000;

    private static final int TOLD_STOPS = 0;
    private static final int TOLD_WALKS = 1;
    private static final int TOLD_WORK = 2;
    private static final int TOLD_DONE = 3;
    private static final int TOLD_PERSON = 4;

    private static final int SINGLE_FINE_DAYS = 10;
    private static final int DOUBLE_FINE_DAYS = 20;
    private static final int GREATEST_FINE = 1000000;

    private final int rate;
    private final House house = new House();
    private final Part[] parts = new Part[MOST_PARTS];
    private final Part[] ranked = new Part[MOST_PARTS];
    private final Person[] persons = new Person[MOST_PERSONS];
    private final int[] spares = new int[GREATEST_KIND + 1];
    private final Planner planner = new Planner();
    private final Tour current = new Tour();
    private int partCount = 0;
    private int personCount = 0;

    public CareTours(int rate) {
        this.rate = Math.max(0, Math.min(rate, GREATEST_RATE));
    }

    public int place(int floor, int x, int y)
            throws IllegalArgumentException, IllegalStateException {
        if (!within(floor, 0, GREATEST_FLOOR) || !isSpot(x, y)) {
            throw new IllegalArgumentException("no such floor or spot");
        }
        if (house.placeCount >= MOST_PLACES) {
            throw new IllegalStateException("there are 30 places");
        }
        current.end();
        return house.addPlace(new Place(floor, x, y));
    }

    public int lift(int x, int y, int least, int greatest, int wait, int speed)
            throws IllegalArgumentException, IllegalStateException {
        if (!isSpot(x, y) || !within(greatest, 0, GREATEST_FLOOR) || !within(least, 0, greatest)) {
            throw new IllegalArgumentException("no such spot or floors");
        }
        if (!within(wait, 0, GREATEST_LIFT_TIME) || !within(speed, 0, GREATEST_LIFT_TIME)) {
            throw new IllegalArgumentException("no such wait or speed");
        }
        if (house.liftCount >= MOST_LIFTS) {
            throw new IllegalStateException("there are 6 lifts");
        }
        current.end();
        return house.addLift(new Lift(x, y, least, greatest, wait, speed));
    }

    public int part(int place, int skill, int kind, int every, int hours, int work)
            throws IllegalArgumentException, IllegalStateException {
        if (!house.hasPlace(place) || !within(skill, 0, GREATEST_SKILL) || !isKind(kind)) {
            throw new IllegalArgumentException("no such place, skill or kind");
        }
        if (!within(every, 1, GREATEST_EVERY) || !within(hours, 1, GREATEST_HOURS)
                || !within(work, 1, GREATEST_WORK)) {
            throw new IllegalArgumentException("no such days, hours or work");
        }
        if (partCount >= MOST_PARTS) {
            throw new IllegalStateException("there are 40 parts");
        }
        int number = partCount;
        parts[number] = new Part(number, house.places[place], skill, kind, every, hours, work);
        partCount++;
        return number;
    }

    public int person(int skills, int home, int seconds)
            throws IllegalArgumentException, IllegalStateException {
        if (!within(skills, 0, ALL_SKILLS) || !house.hasPlace(home)
                || !within(seconds, 0, GREATEST_SECONDS)) {
            throw new IllegalArgumentException("no such skills, home or seconds");
        }
        if (personCount >= MOST_PERSONS) {
            throw new IllegalStateException("there are 8 persons");
        }
        current.end();
        int number = personCount;
        persons[number] = new Person(number, skills, house.places[home], seconds);
        personCount++;
        return number;
    }

    public int used(int part, int day, int hours) throws IllegalArgumentException {
        if (!isPart(part) || !isDay(day) || !within(hours, 1, GREATEST_USE)) {
            throw new IllegalArgumentException("no such part, day or hours");
        }
        Part worn = parts[part];
        if (day < worn.lastTold) {
            throw new IllegalArgumentException("the day is below one that is known");
        }
        worn.addUse(day, hours);
        return worn.usedHours;
    }

    public int stock(int kind, int n) throws IllegalArgumentException {
        if (!isKind(kind) || !within(n, 1, GREATEST_DELIVERY)) {
            throw new IllegalArgumentException("no such kind or number");
        }
        spares[kind] += n;
        return spares[kind];
    }

    public int walk(int from, int to) throws IllegalArgumentException {
        if (!house.hasPlace(from) || !house.hasPlace(to)) {
            throw new IllegalArgumentException("no such place");
        }
        return house.secondsBetween(house.places[from], house.places[to]);
    }

    public int tour(int person, int day) throws IllegalArgumentException {
        if (!within(person, 0, personCount - 1) || !isDay(day)) {
            throw new IllegalArgumentException("no such person or day");
        }
        Person goer = persons[person];
        choose(goer, day);
        planner.measure(house, goer.home);
        planner.plan();
        current.begin(goer, day);
        planner.fill(current, planner.stopsWithin(goer.seconds));
        return current.count;
    }

    public int stop(int k) throws IllegalArgumentException {
        if (!within(k, 0, current.count - 1)) {
            throw new IllegalArgumentException("no such stop");
        }
        return current.stops[k].number;
    }

    public int told(int what) throws IllegalArgumentException {
        switch (what) {
            case TOLD_STOPS:
                return current.count;
            case TOLD_WALKS:
                return current.walks;
            case TOLD_WORK:
                return current.work;
            case TOLD_DONE:
                return current.doneCount;
            case TOLD_PERSON:
                return current.goer == null ? NONE : current.goer.number;
            default:
                throw new IllegalArgumentException("nothing of that number is told");
        }
    }

    public int put(int part) throws IllegalArgumentException, IllegalStateException {
        if (!isPart(part)) {
            throw new IllegalArgumentException("no such part");
        }
        Part added = parts[part];
        if (current.goer == null || !current.goer.has(added.skill)) {
            throw new IllegalStateException("no tour under way, or without the skill");
        }
        if (current.count >= MOST_STOPS || current.isStop(added)) {
            throw new IllegalStateException("there are 20 stops, or it is one of them");
        }
        int gap = current.shortestGap(house, added.place);
        if (gap == NONE) {
            return CANNOT;
        }
        int longer = current.detour(house, added.place, gap);
        current.insert(added, gap, longer);
        return longer;
    }

    public int done() throws IllegalStateException {
        if (current.doneCount >= current.count) {
            throw new IllegalStateException("no tour under way, or all stops are done");
        }
        Part tested = current.stops[current.doneCount];
        if (spares[tested.kind] <= 0) {
            return CANNOT;
        }
        spares[tested.kind]--;
        tested.renew(current.day);
        current.doneCount++;
        return tested.number;
    }

    public int due(int part) throws IllegalArgumentException {
        if (!isPart(part)) {
            throw new IllegalArgumentException("no such part");
        }
        return parts[part].dueDay();
    }

    public int late(int k) throws IllegalArgumentException {
        if (k < 0) {
            throw new IllegalArgumentException("below 0");
        }
        if (k >= partCount) {
            return NONE;
        }
        rankByDueDays();
        return ranked[k].number;
    }

    public int fine(int part, int day) throws IllegalArgumentException {
        if (!isPart(part) || !isDay(day)) {
            throw new IllegalArgumentException("no such part or day");
        }
        int behind = Math.max(0, day - parts[part].dueDay());
        int single = Math.min(behind, SINGLE_FINE_DAYS);
        int twice = Math.min(behind - single, DOUBLE_FINE_DAYS);
        int fourfold = behind - single - twice;
        return Math.min(GREATEST_FINE, rate * (single + 2 * twice + 4 * fourfold));
    }

    public int wanted(int kind, int day) throws IllegalArgumentException {
        if (!isKind(kind) || !isDay(day)) {
            throw new IllegalArgumentException("no such kind or day");
        }
        int tests = 0;
        for (int i = 0; i < partCount; i++) {
            if (parts[i].kind == kind && parts[i].dueDay() <= day) {
                tests++;
            }
        }
        return Math.max(0, tests - spares[kind]);
    }

    private static boolean within(int number, int least, int greatest) {
        return number >= least && number <= greatest;
    }

    private static boolean isSpot(int x, int y) {
        return within(x, 0, GREATEST_COORDINATE) && within(y, 0, GREATEST_COORDINATE);
    }

    private static boolean isDay(int day) {
        return within(day, 0, GREATEST_DAY);
    }

    private static boolean isKind(int kind) {
        return within(kind, 0, GREATEST_KIND);
    }

    private boolean isPart(int number) {
        return within(number, 0, partCount - 1);
    }

    /** Hands the planner the parts that this person may go to on this day, most urgent first. */
    private void choose(Person goer, int day) {
        planner.clear();
        rankByDueDays();
        for (int i = 0; i < partCount && !planner.isFull(); i++) {
            Part candidate = ranked[i];
            if (candidate.dueDay() <= day && goer.has(candidate.skill)
                    && house.secondsBetween(goer.home, candidate.place) != NONE) {
                planner.add(candidate);
            }
        }
    }

    /** Parts enter by their numbers and pass only greater due days: alike ones stay in order. */
    private void rankByDueDays() {
        for (int i = 0; i < partCount; i++) {
            int dueDay = parts[i].dueDay();
            int rank = i;
            while (rank > 0 && ranked[rank - 1].dueDay() > dueDay) {
                ranked[rank] = ranked[rank - 1];
                rank--;
            }
            ranked[rank] = parts[i];
        }
    }

    private static final class Place {
        private final int floor;
        private final int x;
        private final int y;

        private Place(int floor, int x, int y) {
            this.floor = floor;
            this.x = x;
            this.y = y;
        }

        private int secondsTo(int otherX, int otherY) {
            return Math.abs(x - otherX) + Math.abs(y - otherY);
        }
    }

    private static final class Lift {
        private final int x;
        private final int y;
        private final int least;
        private final int greatest;
        private final int wait;
        private final int speed;

        private Lift(int x, int y, int least, int greatest, int wait, int speed) {
            this.x = x;
            this.y = y;
            this.least = least;
            this.greatest = greatest;
            this.wait = wait;
            this.speed = speed;
        }

        private boolean comesTo(Place place) {
            return within(place.floor, least, greatest);
        }

        private int secondsBetween(Place from, Place to) {
            int ride = wait + speed * Math.abs(from.floor - to.floor);
            return from.secondsTo(x, y) + ride + to.secondsTo(x, y);
        }
    }

    private static final class House {
        private final Place[] places = new Place[MOST_PLACES];
        private final Lift[] lifts = new Lift[MOST_LIFTS];
        private int placeCount = 0;
        private int liftCount = 0;

        private boolean hasPlace(int number) {
            return within(number, 0, placeCount - 1);
        }

        private int addPlace(Place place) {
            int number = placeCount;
            places[number] = place;
            placeCount++;
            return number;
        }

        private int addLift(Lift lift) {
            int number = liftCount;
            lifts[number] = lift;
            liftCount++;
            return number;
        }

        private int secondsBetween(Place from, Place to) {
            if (from.floor == to.floor) {
                return from.secondsTo(to.x, to.y);
            }
            int least = NONE;
            for (int i = 0; i < liftCount; i++) {
                if (lifts[i].comesTo(from) && lifts[i].comesTo(to)) {
                    int seconds = lifts[i].secondsBetween(from, to);
                    least = least == NONE ? seconds : Math.min(least, seconds);
                }
            }
            return least;
        }
    }

    private static final class Part {
        private final int number;
        private final Place place;
        private final int skill;
        private final int kind;
        private final int every;
        private final int hours;
        private final int work;
        private int testedDay = 0;
        private int usedHours = 0;
        /** The last day of which something is known: tested, or told to be used since then. */
        private int lastTold = 0;
        /** NONE while it has not been used for its hours. */
        private int wornDay = NONE;

        private Part(int number, Place place, int skill, int kind, int every, int hours, int work) {
            this.number = number;
            this.place = place;
            this.skill = skill;
            this.kind = kind;
            this.every = every;
            this.hours = hours;
            this.work = work;
        }

        private int dueDay() {
            int byDays = testedDay + every;
            return wornDay == NONE ? byDays : Math.min(byDays, wornDay);
        }

        private void addUse(int day, int more) {
            usedHours += more;
            lastTold = day;
            if (wornDay == NONE && usedHours >= hours) {
                wornDay = day;
            }
        }

        private void renew(int day) {
            testedDay = day;
            usedHours = 0;
            lastTold = day;
            wornDay = NONE;
        }
    }

    private static final class Person {
        private final int number;
        private final int skills;
        private final Place home;
        private final int seconds;

        private Person(int number, int skills, Place home, int seconds) {
            this.number = number;
            this.skills = skills;
            this.home = home;
            this.seconds = seconds;
        }

        private boolean has(int skill) {
            return (skills >> skill & 1) == 1;
        }
    }

    /** The tour under way; without a goer there is none, and all its counts are 0. */
    private static final class Tour {
        private final Part[] stops = new Part[MOST_STOPS];
        private Person goer = null;
        private int day = 0;
        private int count = 0;
        private int doneCount = 0;
        private int walks = 0;
        private int work = 0;

        private void begin(Person person, int onDay) {
            end();
            goer = person;
            day = onDay;
        }

        private void end() {
            goer = null;
            count = 0;
            doneCount = 0;
            walks = 0;
            work = 0;
        }

        private boolean isStop(Part part) {
            for (int i = 0; i < count; i++) {
                if (stops[i].number == part.number) {
                    return true;
                }
            }
            return false;
        }

        /** Gap k is before stop k, and the last one behind all stops. */
        private void insert(Part part, int gap, int longer) {
            for (int i = count; i > gap; i--) {
                stops[i] = stops[i - 1];
            }
            stops[gap] = part;
            count++;
            walks += longer;
            work += part.work;
        }

        /** The first of the gaps with the least detour; NONE if none has walks to and from it. */
        private int shortestGap(House house, Place place) {
            int best = NONE;
            int least = 0;
            for (int gap = doneCount; gap <= count; gap++) {
                if (canReach(house, place, gap)) {
                    int longer = detour(house, place, gap);
                    if (best == NONE || longer < least) {
                        best = gap;
                        least = longer;
                    }
                }
            }
            return best;
        }

        private boolean canReach(House house, Place place, int gap) {
            return house.secondsBetween(placeBefore(gap), place) != NONE
                    && house.secondsBetween(place, placeBehind(gap)) != NONE;
        }

        private int detour(House house, Place place, int gap) {
            Place before = placeBefore(gap);
            Place behind = placeBehind(gap);
            return house.secondsBetween(before, place) + house.secondsBetween(place, behind)
                    - house.secondsBetween(before, behind);
        }

        private Place placeBefore(int gap) {
            return gap > 0 ? stops[gap - 1].place : goer.home;
        }

        private Place placeBehind(int gap) {
            return gap < count ? stops[gap].place : goer.home;
        }
    }

    /**
     * Finds the order of the stops. Its nodes are the chosen parts, most urgent first, so that the
     * set of the first n of them is the bits below n: one table serves however many are left out.
     */
    private static final class Planner {
        private static final int MOST_CHOSEN = 7;
        private static final int HOME = MOST_CHOSEN;
        private static final int NODES = MOST_CHOSEN + 1;
        /** Above the walks of any tour, and so small that sums of it are no overflow. */
        private static final int FAR = 1000000;

        private final Part[] chosen = new Part[MOST_CHOSEN];
        /** Walks from node to node; from home to home it stays 0, the tour without stops. */
        private final int[] legs = new int[NODES * NODES];
        /** For a set and a node: the least walks from the node by all of the set and home. */
        private final int[] rest = new int[(1 << MOST_CHOSEN) * NODES];
        private int count = 0;

        private void clear() {
            count = 0;
        }

        private boolean isFull() {
            return count >= MOST_CHOSEN;
        }

        private void add(Part part) {
            chosen[count] = part;
            count++;
        }

        private void measure(House house, Place home) {
            for (int i = 0; i < count; i++) {
                int fromHome = legOf(house, home, chosen[i].place);
                legs[HOME * NODES + i] = fromHome;
                legs[i * NODES + HOME] = fromHome;
                for (int j = 0; j < count; j++) {
                    legs[i * NODES + j] = legOf(house, chosen[i].place, chosen[j].place);
                }
            }
        }

        private static int legOf(House house, Place from, Place to) {
            int seconds = house.secondsBetween(from, to);
            return seconds == NONE ? FAR : seconds;
        }

        private void plan() {
            for (int set = 0; set < 1 << count; set++) {
                for (int node = 0; node < count; node++) {
                    if (!isIn(node, set)) {
                        rest[set * NODES + node] = leastRest(node, set);
                    }
                }
                rest[set * NODES + HOME] = leastRest(HOME, set);
            }
        }

        private int leastRest(int node, int set) {
            if (set == 0) {
                return legs[node * NODES + HOME];
            }
            int least = FAR;
            for (int next = 0; next < count; next++) {
                if (isIn(next, set)) {
                    least = Math.min(least, restBy(node, next, set));
                }
            }
            return least;
        }

        private int restBy(int node, int next, int set) {
            return legs[node * NODES + next] + rest[(set - (1 << next)) * NODES + next];
        }

        private static boolean isIn(int node, int set) {
            return (set >> node & 1) == 1;
        }

        private static int firstOnes(int n) {
            return (1 << n) - 1;
        }

        private int leastWalks(int stops) {
            return rest[firstOnes(stops) * NODES + HOME];
        }

        /** How many of the first stops can be gone to in so many seconds. */
        private int stopsWithin(int seconds) {
            int work = 0;
            for (int i = 0; i < count; i++) {
                work += chosen[i].work;
            }
            for (int stops = count; stops > 0; stops--) {
                int walks = leastWalks(stops);
                if (walks < FAR && walks + work <= seconds) {
                    return stops;
                }
                work -= chosen[stops - 1].work;
            }
            return 0;
        }

        private void fill(Tour tour, int stops) {
            int set = firstOnes(stops);
            int node = nextNode(HOME, set);
            for (int k = 0; k < stops && node != NONE; k++) {
                tour.insert(chosen[node], k, 0);
                set -= 1 << node;
                node = nextNode(node, set);
            }
            tour.walks = leastWalks(stops);
        }

        /** Where a least way goes on: of several nodes the one with the least part's number. */
        private int nextNode(int node, int set) {
            int found = NONE;
            for (int next = 0; next < count; next++) {
                if (isIn(next, set) && restBy(node, next, set) == rest[set * NODES + node]
                        && (found == NONE || chosen[next].number < chosen[found].number)) {
                    found = next;
                }
            }
            return found;
        }
    }
}
