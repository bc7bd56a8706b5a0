public final class BlossomTours {
    private static final int MOST_VALLEYS = 8;
    private static final int MOST_ROADS = 20;
    private static final int MOST_TOURS = 6;
    private static final int MOST_STOPS = 5;
    private static final int LATEST_START = 90;
    private static final int LONGEST_BLOOM = 30;
    private static final int MOST_BEES = 50;
    private static final int LONGEST_ROAD = 240;
    private static final int MOST_TOURISTS = 60;
    private static final int HEAT_DAYS = 10;
    private static final int FIRST_HEAT = 20;
    private static final int GREATEST_HEAT = 40;
    private static final int MINUTES_IN_A_VALLEY = 50;
    private static final int LONGEST_TOUR = 480;
    private static final int MOST_DAYS = 60;
    private static final int DAYS_OF_OUTLOOK = 120;
    private static final int THINGS_TO_COUNT = 9;
    private static final int THINGS_ABOUT_A_VALLEY = 6;
    private static final int THINGS_TOLD_OF_A_TOUR = 6;
    private static final long DIGEST_START = 1213L;
    private static final int NONE = -1;

    private final Valley[] valleys = new Valley[MOST_VALLEYS];
    private final Tour[] tours = new Tour[MOST_TOURS];
    private final int[] heats = new int[HEAT_DAYS];
    private final Roads roads = new Roads();
    private final Books books = new Books();
    // Kept, so that foresee() makes no new object at each call.
    private final Books draft = new Books();
    private int valleyCount;
    private int tourCount;
    private int today;

    public BlossomTours() {
        for (int i = 0; i < valleys.length; i++) {
            valleys[i] = new Valley();
        }
        for (int i = 0; i < tours.length; i++) {
            tours[i] = new Tour();
        }
        for (int i = 0; i < heats.length; i++) {
            heats[i] = FIRST_HEAT;
        }
    }

    // ---- valleys and roads

    public int valley(int from, int length, int bees) throws IllegalArgumentException, IllegalStateException {
        if (!isWithin(from, 0, LATEST_START)) {
            throw new IllegalArgumentException("from is not 0 to 90");
        }
        if (!isWithin(length, 1, LONGEST_BLOOM)) {
            throw new IllegalArgumentException("length is not 1 to 30");
        }
        if (!isWithin(bees, 0, MOST_BEES)) {
            throw new IllegalArgumentException("bees is not 0 to 50");
        }
        if (valleyCount >= valleys.length) {
            throw new IllegalStateException("there are 8 valleys");
        }
        Valley told = valleys[valleyCount];
        told.from = from;
        told.length = length;
        told.bees = bees;
        valleyCount++;
        return valleyCount - 1;
    }

    public int road(int a, int b, int minutes)
            throws IndexOutOfBoundsException, IllegalArgumentException, IllegalStateException {
        checkValley(a);
        checkValley(b);
        if (a == b) {
            throw new IllegalArgumentException("both valleys are the same");
        }
        if (!isWithin(minutes, 1, LONGEST_ROAD)) {
            throw new IllegalArgumentException("minutes is not 1 to 240");
        }
        if (roads.laid >= MOST_ROADS) {
            throw new IllegalStateException("there are 20 roads");
        }
        roads.lay(a, b, minutes);
        reckonCrowds();
        return roads.laid;
    }

    public int setHeat(int day, int heat) throws IndexOutOfBoundsException, IllegalArgumentException {
        if (day < 0 || day >= heats.length) {
            throw new IndexOutOfBoundsException("day is not 0 to 9");
        }
        if (!isWithin(heat, 0, GREATEST_HEAT)) {
            throw new IllegalArgumentException("heat is not 0 to 40");
        }
        int before = heats[day];
        heats[day] = heat;
        return before;
    }

    public int bloom(int valley, int day) throws IndexOutOfBoundsException, IllegalArgumentException {
        checkValley(valley);
        checkDay(day);
        return valleys[valley].bloomOn(day);
    }

    public int way(int a, int b) throws IndexOutOfBoundsException {
        checkValley(a);
        checkValley(b);
        return roads.minutesBetween(a, b);
    }

    // ---- tours

    public int tour(int tourists) throws IllegalArgumentException, IllegalStateException {
        if (!isWithin(tourists, 1, MOST_TOURISTS)) {
            throw new IllegalArgumentException("tourists is not 1 to 60");
        }
        if (tourCount >= tours.length) {
            throw new IllegalStateException("there are 6 tours");
        }
        tours[tourCount].tourists = tourists;
        tourCount++;
        return tourCount - 1;
    }

    public int add(int tour, int valley) throws IndexOutOfBoundsException, IllegalStateException {
        checkTour(tour);
        checkValley(valley);
        Tour changed = tours[tour];
        if (changed.isFull()) {
            throw new IllegalStateException("the tour has 5 valleys");
        }
        if (changed.visits(valley)) {
            throw new IllegalStateException("the tour has this valley");
        }
        changed.append(valley);
        reckonCrowds();
        return changed.stopCount;
    }

    public int cut(int tour) throws IndexOutOfBoundsException, IllegalStateException {
        checkTour(tour);
        Tour changed = tours[tour];
        if (changed.stopCount <= 0) {
            throw new IllegalStateException("the tour has no valley");
        }
        int last = changed.takeLast();
        reckonCrowds();
        return last;
    }

    public int told(int tour, int what) throws IndexOutOfBoundsException {
        checkTour(tour);
        Tour asked = tours[tour];
        switch (what) {
            case 0: return asked.tourists;
            case 1: return asked.stopCount;
            case 2: return asked.minutes;
            case 3: return asked.canGo() ? 1 : 0;
            case 4: return joyOn(asked, today);
            case 5: return stingsOn(asked, today);
            default: throw new IndexOutOfBoundsException("what is not 0 to 5");
        }
    }

    public int about(int valley, int what) throws IndexOutOfBoundsException {
        checkValley(valley);
        Valley asked = valleys[valley];
        switch (what) {
            case 0: return asked.from;
            case 1: return asked.length;
            case 2: return asked.bees;
            case 3: return asked.bloomOn(today);
            case 4: return asked.crowd;
            case 5: return asked.visitingTours;
            default: throw new IndexOutOfBoundsException("what is not 0 to 5");
        }
    }

    public int count(int what) throws IndexOutOfBoundsException {
        switch (what) {
            case 0: return today;
            case 1: return valleyCount;
            case 2: return roads.laid;
            case 3: return tourCount;
            case 4: return toursThatCanGo();
            case 5: return valleysInBloomOn(today);
            case 6: return books.coins;
            case 7: return books.joyInAll;
            case 8: return books.stingsInAll;
            default: throw new IndexOutOfBoundsException("what is not 0 to 8");
        }
    }

    // ---- days and what would be

    public int pass(int days) throws IllegalArgumentException {
        checkSpan(days);
        int before = books.coins;
        enterDays(books, days);
        today += days;
        return books.coins - before;
    }

    public int joy(int tour, int day) throws IndexOutOfBoundsException, IllegalArgumentException {
        checkTour(tour);
        checkDay(day);
        return joyOn(tours[tour], day);
    }

    public int best(int tour) throws IndexOutOfBoundsException {
        checkTour(tour);
        int bestDay = NONE;
        int mostJoy = 0;
        for (int ahead = 0; ahead < DAYS_OF_OUTLOOK; ahead++) {
            int joyThen = joyOn(tours[tour], today + ahead);
            if (joyThen > mostJoy) {
                mostJoy = joyThen;
                bestDay = today + ahead;
            }
        }
        return bestDay;
    }

    public int advise(int tour) throws IndexOutOfBoundsException {
        checkTour(tour);
        Tour asked = tours[tour];
        if (asked.isFull()) {
            return NONE;
        }
        int bestValley = NONE;
        int mostJoy = joyOn(asked, today);
        for (int v = 0; v < valleyCount; v++) {
            int joyWithIt = asked.visits(v) ? 0 : joyWithStopAdded(asked, v);
            if (joyWithIt > mostJoy) {
                mostJoy = joyWithIt;
                bestValley = v;
            }
        }
        return bestValley;
    }

    public int foresee(int days, int what) throws IllegalArgumentException, IndexOutOfBoundsException {
        checkSpan(days);
        draft.copyFrom(books);
        enterDays(draft, days);
        switch (what) {
            case 5: return valleysInBloomOn(today + days);
            case 6: return draft.coins;
            case 7: return draft.joyInAll;
            case 8: return draft.stingsInAll;
            default: throw new IndexOutOfBoundsException("what is not 5 to 8");
        }
    }

    public double mean() {
        if (valleyCount <= 0) {
            return 0.0;
        }
        int sum = 0;
        for (int v = 0; v < valleyCount; v++) {
            sum += valleys[v].bloomOn(today);
        }
        return (double) sum / (double) valleyCount;
    }

    public long digest() {
        long d = DIGEST_START;
        for (int what = 0; what < THINGS_TO_COUNT; what++) {
            d = mixed(d, count(what));
        }
        for (int i = 0; i < heats.length; i++) {
            d = mixed(d, heats[i]);
        }
        for (int v = 0; v < valleyCount; v++) {
            d = mixedWithValley(d, v);
        }
        for (int t = 0; t < tourCount; t++) {
            d = mixedWithTour(d, t);
        }
        return d;
    }

    private long mixedWithValley(long start, int valley) {
        long d = start;
        for (int what = 0; what < THINGS_ABOUT_A_VALLEY; what++) {
            d = mixed(d, about(valley, what));
        }
        for (int other = 0; other < valleyCount; other++) {
            d = mixed(d, roads.minutesBetween(valley, other));
        }
        return d;
    }

    private long mixedWithTour(long start, int tour) {
        long d = start;
        for (int what = 0; what < THINGS_TOLD_OF_A_TOUR; what++) {
            d = mixed(d, told(tour, what));
        }
        for (int place = 0; place < tours[tour].stopCount; place++) {
            d = mixed(d, tours[tour].stops[place]);
        }
        return d;
    }

    private static long mixed(long d, long x) {
        return d * 31L + x;
    }

    private static boolean isWithin(int number, int least, int most) {
        return number >= least && number <= most;
    }

    private void checkValley(int valley) {
        if (valley < 0 || valley >= valleyCount) {
            throw new IndexOutOfBoundsException("no such valley");
        }
    }

    private void checkTour(int tour) {
        if (tour < 0 || tour >= tourCount) {
            throw new IndexOutOfBoundsException("no such tour");
        }
    }

    private static void checkDay(int day) {
        if (day < 0) {
            throw new IllegalArgumentException("day is less than 0");
        }
    }

    private static void checkSpan(int days) {
        if (!isWithin(days, 1, MOST_DAYS)) {
            throw new IllegalArgumentException("days is not 1 to 60");
        }
    }

    // Crowds hang on roads and lists alone, not on the day: they are reckoned
    // at each change of these, so that a look over many days stays cheap.
    private void reckonCrowds() {
        for (int v = 0; v < valleyCount; v++) {
            valleys[v].crowd = 0;
            valleys[v].visitingTours = 0;
        }
        for (int t = 0; t < tourCount; t++) {
            tours[t].measure(roads);
            if (tours[t].canGo()) {
                joinCrowds(tours[t]);
            }
        }
    }

    private void joinCrowds(Tour tour) {
        for (int v = 0; v < valleyCount; v++) {
            if (tour.visits(v)) {
                valleys[v].crowd += tour.tourists;
                valleys[v].visitingTours++;
            }
        }
    }

    private int joyOn(Tour tour, int day) {
        if (!tour.canGo()) {
            return 0;
        }
        int sum = 0;
        for (int v = 0; v < valleyCount; v++) {
            if (tour.visits(v)) {
                sum += Math.max(0, valleys[v].bloomOn(day) - valleys[v].crowd / 10);
            }
        }
        return sum;
    }

    private int stingsOn(Tour tour, int day) {
        if (!tour.canGo()) {
            return 0;
        }
        int sum = 0;
        for (int v = 0; v < valleyCount; v++) {
            if (tour.visits(v)) {
                sum += tour.tourists * valleys[v].bees * valleys[v].bloomOn(day) / 5000;
            }
        }
        return sum;
    }

    // The valley is added in earnest and taken away again, as it changes the
    // crowds too, and whether the tour can go at all.
    private int joyWithStopAdded(Tour tour, int valley) {
        tour.append(valley);
        reckonCrowds();
        int joyThen = joyOn(tour, today);
        tour.takeLast();
        reckonCrowds();
        return joyThen;
    }

    private void enterDays(Books kept, int days) {
        for (int ahead = 0; ahead < days; ahead++) {
            enterDay(kept, today + ahead);
        }
    }

    private void enterDay(Books kept, int day) {
        int heat = heats[Math.floorMod(day, HEAT_DAYS)];
        for (int t = 0; t < tourCount; t++) {
            Tour tour = tours[t];
            if (tour.canGo()) {
                int joyThen = joyOn(tour, day);
                kept.coins += joyThen * tour.tourists / 100 + tour.tourists * heat / 40;
                kept.joyInAll += joyThen;
                kept.stingsInAll += stingsOn(tour, day);
            }
        }
    }

    private int toursThatCanGo() {
        int number = 0;
        for (int t = 0; t < tourCount; t++) {
            if (tours[t].canGo()) {
                number++;
            }
        }
        return number;
    }

    private int valleysInBloomOn(int day) {
        int number = 0;
        for (int v = 0; v < valleyCount; v++) {
            if (valleys[v].bloomOn(day) > 0) {
                number++;
            }
        }
        return number;
    }

    private static final class Valley {
        private int from;
        private int length;
        private int bees;
        private int crowd;
        private int visitingTours;

        private int bloomOn(int day) {
            int last = from + length - 1;
            int half = (length + 1) / 2;
            if (day < from || day > last || half <= 0) {
                return 0;
            }
            int nearerEnd = Math.min(day - from + 1, last - day + 1);
            return 100 * nearerEnd / half;
        }
    }

    private static final class Tour {
        private final int[] stops = new int[MOST_STOPS];
        private int stopCount;
        private int tourists;
        private int minutes;

        private boolean isFull() {
            return stopCount >= stops.length;
        }

        private boolean visits(int valley) {
            for (int place = 0; place < stopCount; place++) {
                if (stops[place] == valley) {
                    return true;
                }
            }
            return false;
        }

        private void append(int valley) {
            if (!isFull()) {
                stops[stopCount] = valley;
                stopCount++;
            }
        }

        private int takeLast() {
            if (stopCount <= 0) {
                return NONE;
            }
            stopCount--;
            return stops[stopCount];
        }

        private void measure(Roads roads) {
            int sum = MINUTES_IN_A_VALLEY * stopCount;
            for (int place = 1; place < stopCount; place++) {
                int way = roads.minutesBetween(stops[place - 1], stops[place]);
                if (way < 0) {
                    minutes = NONE;
                    return;
                }
                sum += way;
            }
            minutes = sum;
        }

        private boolean canGo() {
            return stopCount > 0 && isWithin(minutes, 0, LONGEST_TOUR);
        }
    }

    private static final class Roads {
        // Above any way that there can be (7 roads of 240), and small enough
        // that a sum of several never wraps around.
        private static final int FAR = 1000000;

        private final int[][] ways = new int[MOST_VALLEYS][MOST_VALLEYS];
        private int laid;

        private Roads() {
            for (int a = 0; a < MOST_VALLEYS; a++) {
                for (int b = 0; b < MOST_VALLEYS; b++) {
                    ways[a][b] = a == b ? 0 : FAR;
                }
            }
        }

        private int minutesBetween(int a, int b) {
            if (!isPlace(a) || !isPlace(b) || ways[a][b] >= FAR) {
                return NONE;
            }
            return ways[a][b];
        }

        // Roads are never taken away, and a shortest way uses the new one at
        // most once: so the ways known till now tell all the new ones.
        private void lay(int a, int b, int minutes) {
            if (!isPlace(a) || !isPlace(b)) {
                return;
            }
            for (int i = 0; i < MOST_VALLEYS; i++) {
                for (int j = 0; j < MOST_VALLEYS; j++) {
                    int there = ways[i][a] + minutes + ways[b][j];
                    int back = ways[i][b] + minutes + ways[a][j];
                    ways[i][j] = Math.min(ways[i][j], Math.min(there, back));
                }
            }
            laid++;
        }

        private static boolean isPlace(int valley) {
            return isWithin(valley, 0, MOST_VALLEYS - 1);
        }
    }

    private static final class Books {
        private int coins;
        private int joyInAll;
        private int stingsInAll;

        private void copyFrom(Books other) {
            coins = other.coins;
            joyInAll = other.joyInAll;
            stingsInAll = other.stingsInAll;
        }
    }
}
