import java.math.BigInteger;

/** For each sentence of the promises 1 to 19 that names a boundary case a test of its own. */
public final class PromiseSentencesTest {
    private static final Class<IndexOutOfBoundsException> INDEX = IndexOutOfBoundsException.class;
    private static final Class<IllegalArgumentException> ARGUMENT = IllegalArgumentException.class;
    private static final Class<IllegalStateException> STATE = IllegalStateException.class;
    private static final int LOW = Integer.MIN_VALUE;
    private static final int HIGH = Integer.MAX_VALUE;

    public static void main(String[] args) {
        SentenceTests tests = new SentenceTests(PromiseSentencesTest.class);
        tests.run();
        tests.everyPromiseIsQuotedInFull();
        Check.end();
    }

    // ---- promise 1: a new object

    @Sentence(in = "Promise 1", says = "Creates a land without valleys, on the day 0.")
    private static void p01IsEmpty() {
        BlossomTours land = new BlossomTours();
        Check.equal("the day", land.count(0), 0);
        Check.equal("valleys", land.count(1), 0);
        Check.refused(land, "bloom(0, 0)", INDEX, () -> land.bloom(0, 0));
        Check.refused(land, "told(0, 0)", INDEX, () -> land.told(0, 0));
        Check.equal("valleys that bloom", land.count(5), 0);
        Check.equal("a day without anything", land.pass(1), 0);
        land.valley(0, 1, 0);
        Check.equal("a second object", new BlossomTours().count(1), 0);
    }

    // ---- promise 2: valley

    @Sentence(in = "Promise 2", says = "Returns its number.")
    private static void p02Returns() {
        BlossomTours land = new BlossomTours();
        Check.equal("the first one", land.valley(1, 2, 3), 0);
        Check.refused(land, "one that is refused", ARGUMENT, () -> land.valley(-1, 2, 3));
        Check.equal("the next one", land.valley(1, 2, 3), 1);
        for (int v = 2; v < 8; v++) {
            Check.equal("valley " + v, land.valley(v, v, v), v);
        }
    }

    @Sentence(in = "Promise 2", says = "Throws `IllegalArgumentException` if from is not 0 to 90,"
            + " length is not 1 to 30, or bees is not 0 to 50")
    private static void p02ThrowsArgument() {
        BlossomTours land = new BlossomTours();
        for (int from : new int[] {-1, 91, LOW, HIGH}) {
            Check.refused(land, "from " + from, ARGUMENT, () -> land.valley(from, 5, 5));
        }
        for (int length : new int[] {0, -1, 31, LOW, HIGH}) {
            Check.refused(land, "length " + length, ARGUMENT, () -> land.valley(5, length, 5));
        }
        for (int bees : new int[] {-1, 51, LOW, HIGH}) {
            Check.refused(land, "bees " + bees, ARGUMENT, () -> land.valley(5, 5, bees));
        }
        Check.equal("the least ones", land.valley(0, 1, 0), 0);
        Check.equal("the greatest ones", land.valley(90, 30, 50), 1);
    }

    @Sentence(in = "Promise 2", says = "Throws `IllegalStateException` if there are 8")
    private static void p02ThrowsState() {
        BlossomTours land = Lands.valleys(7);
        Check.equal("there are 7", land.valley(0, 1, 0), 7);
        Check.refused(land, "there are 8", STATE, () -> land.valley(0, 1, 0));
        land.pass(60);
        Check.refused(land, "days later too", STATE, () -> land.valley(90, 30, 50));
    }

    // ---- promise 3: road

    @Sentence(in = "Promise 3", says = "Returns how many roads there are then.")
    private static void p03Returns() {
        BlossomTours land = Lands.valleys(2);
        for (int road = 1; road <= 20; road++) {
            Check.equal("road " + road, land.road(road % 2, 1 - road % 2, road), road);
            Check.equal("count(2) with road " + road, land.count(2), road);
        }
    }

    @Sentence(in = "Promise 3", says = "Throws `IndexOutOfBoundsException` if there is no such valley")
    private static void p03ThrowsIndex() {
        BlossomTours none = new BlossomTours();
        Check.refused(none, "no valleys", INDEX, () -> none.road(0, 1, 5));
        BlossomTours land = Lands.valleys(7);
        for (int valley : new int[] {-1, 7, 8, LOW, HIGH}) {
            Check.refused(land, "from valley " + valley, INDEX, () -> land.road(valley, 0, 5));
            Check.refused(land, "to valley " + valley, INDEX, () -> land.road(0, valley, 5));
        }
        Check.equal("the first one and the last one", land.road(0, 6, 5), 1);
        land.valley(0, 1, 0);
        Check.equal("the eighth one", land.road(7, 0, 5), 2);
    }

    @Sentence(in = "Promise 3",
            says = "Throws `IllegalArgumentException` if both are the same, or minutes is not 1 to 240")
    private static void p03ThrowsArgument() {
        BlossomTours land = Lands.valleys(2);
        Check.refused(land, "both are 0", ARGUMENT, () -> land.road(0, 0, 5));
        Check.refused(land, "both are 1", ARGUMENT, () -> land.road(1, 1, 5));
        for (int minutes : new int[] {0, -1, 241, LOW, HIGH}) {
            Check.refused(land, "minutes " + minutes, ARGUMENT, () -> land.road(0, 1, minutes));
        }
        Check.equal("240 minutes", land.road(0, 1, 240), 1);
        Check.equal("1 minute", land.road(0, 1, 1), 2);
    }

    @Sentence(in = "Promise 3", says = "Throws `IllegalStateException` if there are 20")
    private static void p03ThrowsState() {
        BlossomTours land = Lands.valleys(3);
        for (int road = 1; road <= 19; road++) {
            land.road(0, 1, 240);
        }
        Check.equal("there are 19", land.road(0, 1, 240), 20);
        Check.refused(land, "there are 20", STATE, () -> land.road(0, 1, 240));
        Check.refused(land, "also where there is none", STATE, () -> land.road(1, 2, 1));
    }

    // ---- promise 4: setHeat

    @Sentence(in = "Promise 4", says = "Returns the heat before.")
    private static void p04Returns() {
        BlossomTours land = new BlossomTours();
        for (int day = 0; day < 10; day++) {
            Check.equal("at first, day " + day, land.setHeat(day, 0), 20);
            Check.equal("the least one, day " + day, land.setHeat(day, 40), 0);
            Check.equal("the greatest one, day " + day, land.setHeat(day, day), 40);
        }
        for (int day = 0; day < 10; day++) {
            Check.equal("of this day alone, day " + day, land.setHeat(day, 20), day);
        }
    }

    @Sentence(in = "Promise 4", says = "Throws `IndexOutOfBoundsException` if day is not 0 to 9")
    private static void p04ThrowsIndex() {
        BlossomTours land = new BlossomTours();
        for (int day : new int[] {-1, 10, LOW, HIGH}) {
            Check.refused(land, "day " + day, INDEX, () -> land.setHeat(day, 5));
        }
        land.pass(15);
        Check.refused(land, "day 10, when it has come", INDEX, () -> land.setHeat(10, 5));
        Check.equal("day 0", land.setHeat(0, 5), 20);
        Check.equal("day 9", land.setHeat(9, 5), 20);
    }

    @Sentence(in = "Promise 4", says = "Throws `IllegalArgumentException` if heat is not 0 to 40")
    private static void p04ThrowsArgument() {
        BlossomTours land = new BlossomTours();
        for (int heat : new int[] {-1, 41, LOW, HIGH}) {
            Check.refused(land, "heat " + heat, ARGUMENT, () -> land.setHeat(3, heat));
        }
        Check.equal("heat 0", land.setHeat(3, 0), 20);
        Check.equal("heat 40", land.setHeat(3, 40), 0);
    }

    // ---- promise 5: bloom

    @Sentence(in = "Promise 5", says = "Returns its bloom.")
    private static void p05Returns() {
        BlossomTours land = Lands.valleys(1);
        land.valley(5, 3, 0);
        Check.equal("day 0", land.bloom(0, 0), 100);
        Check.equal("day 1", land.bloom(0, 1), 0);
        Check.equal("ahead", land.bloom(1, 4), 0);
        Check.equal("the first day", land.bloom(1, 5), 50);
        Check.equal("the middle", land.bloom(1, 6), 100);
        Check.equal("the last day", land.bloom(1, 7), 50);
        Check.equal("behind", land.bloom(1, 8), 0);
        land.pass(60);
        Check.equal("a day gone by", land.bloom(1, 6), 100);
        Check.equal("the greatest day", land.bloom(1, HIGH), 0);
    }

    @Sentence(in = "Promise 5", says = "Throws `IndexOutOfBoundsException` if there is no such valley")
    private static void p05ThrowsIndex() {
        BlossomTours land = Lands.valleys(7);
        for (int valley : new int[] {-1, 7, 8, LOW, HIGH}) {
            Check.refused(land, "valley " + valley, INDEX, () -> land.bloom(valley, 0));
        }
        land.valley(0, 1, 0);
        Check.equal("the eighth one", land.bloom(7, 0), 100);
        Check.refused(land, "a ninth one", INDEX, () -> land.bloom(8, 0));
    }

    @Sentence(in = "Promise 5", says = "Throws `IllegalArgumentException` if day is less than 0")
    private static void p05ThrowsArgument() {
        BlossomTours land = Lands.valleys(1);
        Check.refused(land, "day -1", ARGUMENT, () -> land.bloom(0, -1));
        Check.refused(land, "the least day", ARGUMENT, () -> land.bloom(0, LOW));
        Check.equal("day 0", land.bloom(0, 0), 100);
    }

    // ---- promise 6: way

    @Sentence(in = "Promise 6", says = "Returns their way; -1 if there is none.")
    private static void p06Returns() {
        BlossomTours land = Lands.valleys(4);
        Check.equal("without roads", land.way(0, 1), -1);
        Check.equal("to itself", land.way(3, 3), 0);
        land.road(0, 1, 30);
        land.road(2, 3, 40);
        Check.equal("a road", land.way(1, 0), 30);
        Check.equal("between two parts", land.way(1, 2), -1);
        land.road(1, 2, 240);
        Check.equal("the parts are joined", land.way(0, 3), 310);
        land.road(0, 2, 240);
        Check.equal("fewer minutes", land.way(0, 3), 280);
    }

    @Sentence(in = "Promise 6", says = "Throws `IndexOutOfBoundsException` if there is no such valley")
    private static void p06ThrowsIndex() {
        BlossomTours land = Lands.row(7);
        for (int valley : new int[] {-1, 7, 8, LOW, HIGH}) {
            Check.refused(land, "from valley " + valley, INDEX, () -> land.way(valley, 0));
            Check.refused(land, "to valley " + valley, INDEX, () -> land.way(0, valley));
            Check.refused(land, "both " + valley, INDEX, () -> land.way(valley, valley));
        }
        land.valley(0, 1, 0);
        Check.equal("to the eighth one", land.way(0, 7), -1);
        Check.refused(land, "to a ninth one", INDEX, () -> land.way(0, 8));
    }

    // ---- promise 7: tour

    @Sentence(in = "Promise 7", says = "Returns its number.")
    private static void p07Returns() {
        BlossomTours land = new BlossomTours();
        Check.equal("the first one", land.tour(1), 0);
        Check.refused(land, "one that is refused", ARGUMENT, () -> land.tour(0));
        for (int t = 1; t < 6; t++) {
            Check.equal("tour " + t, land.tour(60), t);
        }
    }

    @Sentence(in = "Promise 7", says = "Throws `IllegalArgumentException` if tourists is not 1 to 60")
    private static void p07ThrowsArgument() {
        BlossomTours land = new BlossomTours();
        for (int tourists : new int[] {0, -1, 61, LOW, HIGH}) {
            Check.refused(land, tourists + " tourists", ARGUMENT, () -> land.tour(tourists));
        }
        Check.equal("1 tourist", land.tour(1), 0);
        Check.equal("60 tourists", land.tour(60), 1);
    }

    @Sentence(in = "Promise 7", says = "Throws `IllegalStateException` if there are 6")
    private static void p07ThrowsState() {
        BlossomTours land = new BlossomTours();
        for (int t = 0; t < 5; t++) {
            land.tour(60);
        }
        Check.equal("there are 5", land.tour(60), 5);
        Check.refused(land, "there are 6", STATE, () -> land.tour(60));
        Check.refused(land, "nor a small one", STATE, () -> land.tour(1));
    }

    // ---- promise 8: add

    @Sentence(in = "Promise 8", says = "Adds a valley to the end of the list of a tour.")
    private static void p08AddsToTheEnd() {
        BlossomTours land = Lands.row(8);
        land.tour(1);
        land.tour(1);
        int[] added = {7, 0, 4, 1, 6};
        for (int valley : added) {
            land.add(1, valley);
        }
        Check.equal("the other list", land.told(0, 1), 0);
        for (int place = 4; place >= 0; place--) {
            Check.equal("at place " + place, land.cut(1), added[place]);
        }
        land.add(0, 3);
        land.add(0, 2);
        Check.equal("the end of a list of 2", land.cut(0), 2);
        land.add(0, 5);
        Check.equal("the end behind a cut", land.cut(0), 5);
    }

    @Sentence(in = "Promise 8", says = "Returns how many it has then.")
    private static void p08Returns() {
        BlossomTours land = Lands.valleys(8);
        land.tour(1);
        land.tour(1);
        for (int n = 1; n <= 5; n++) {
            Check.equal("with valley " + n, land.add(0, n), n);
        }
        Check.equal("the other list", land.add(1, 7), 1);
        land.cut(0);
        Check.equal("behind a cut", land.add(0, 7), 5);
    }

    @Sentence(in = "Promise 8", says = "Throws `IndexOutOfBoundsException` if there is no such tour or valley")
    private static void p08ThrowsIndex() {
        BlossomTours land = Lands.valleys(7);
        Check.refused(land, "no tours", INDEX, () -> land.add(0, 0));
        for (int t = 0; t < 5; t++) {
            land.tour(1);
        }
        for (int tour : new int[] {-1, 5, 6, LOW, HIGH}) {
            Check.refused(land, "tour " + tour, INDEX, () -> land.add(tour, 0));
        }
        for (int valley : new int[] {-1, 7, 8, LOW, HIGH}) {
            Check.refused(land, "valley " + valley, INDEX, () -> land.add(0, valley));
        }
        land.tour(1);
        Check.equal("the last tour, the first valley", land.add(5, 0), 1);
        Check.equal("the first tour, the last valley", land.add(0, 6), 1);
        Check.refused(land, "a seventh tour", INDEX, () -> land.add(6, 0));
    }

    @Sentence(in = "Promise 8", says = "Throws `IllegalStateException` if it has 5, or has this one")
    private static void p08ThrowsState() {
        BlossomTours land = Lands.valleys(8);
        land.tour(1);
        land.tour(1);
        for (int v = 0; v < 4; v++) {
            land.add(0, v);
        }
        for (int v = 0; v < 4; v++) {
            int valley = v;
            Check.refused(land, "it has valley " + v, STATE, () -> land.add(0, valley));
        }
        Check.equal("it has 4", land.add(0, 4), 5);
        for (int v = 0; v < 8; v++) {
            int valley = v;
            Check.refused(land, "it has 5, valley " + v, STATE, () -> land.add(0, valley));
        }
        Check.equal("the other one has none", land.add(1, 0), 1);
        land.cut(0);
        Check.equal("it has 4 again, and 4 no more", land.add(0, 4), 5);
    }

    // ---- promise 9: cut

    @Sentence(in = "Promise 9", says = "Takes the last valley away from the list of a tour.")
    private static void p09TakesTheLast() {
        BlossomTours land = Lands.row(5);
        Lands.tourThrough(land, 30, 0, 1, 2, 3, 4);
        Lands.tourThrough(land, 20, 4);
        for (int left = 4; left >= 0; left--) {
            Check.equal("crowd of the last one", land.about(left, 4), left == 4 ? 50 : 30);
            land.cut(0);
            Check.equal("how many are left", land.told(0, 1), left);
            Check.equal("its crowd then", land.about(left, 4), left == 4 ? 20 : 0);
        }
        Check.equal("it can go no more", land.told(0, 3), 0);
        Check.equal("the other list", land.told(1, 1), 1);
    }

    @Sentence(in = "Promise 9", says = "Returns this valley.")
    private static void p09Returns() {
        BlossomTours land = Lands.valleys(8);
        Lands.tourThrough(land, 1, 7, 0, 3);
        Lands.tourThrough(land, 1, 5);
        Check.equal("the last of 3", land.cut(0), 3);
        Check.equal("the last of 2", land.cut(0), 0);
        Check.equal("the last of 1", land.cut(0), 7);
        Check.equal("of another tour", land.cut(1), 5);
    }

    @Sentence(in = "Promise 9", says = "Throws `IndexOutOfBoundsException` if there is no such tour")
    private static void p09ThrowsIndex() {
        BlossomTours land = Lands.valleys(1);
        Check.refused(land, "no tours", INDEX, () -> land.cut(0));
        for (int t = 0; t < 5; t++) {
            Lands.tourThrough(land, 1, 0);
        }
        for (int tour : new int[] {-1, 5, 6, LOW, HIGH}) {
            Check.refused(land, "tour " + tour, INDEX, () -> land.cut(tour));
        }
        Lands.tourThrough(land, 1, 0);
        Check.equal("the sixth one", land.cut(5), 0);
        Check.refused(land, "a seventh one", INDEX, () -> land.cut(6));
    }

    @Sentence(in = "Promise 9", says = "Throws `IllegalStateException` if it has none")
    private static void p09ThrowsState() {
        BlossomTours land = Lands.valleys(1);
        land.tour(1);
        Lands.tourThrough(land, 1, 0);
        Check.refused(land, "it never had one", STATE, () -> land.cut(0));
        Check.equal("it has 1", land.cut(1), 0);
        Check.refused(land, "it has none any more", STATE, () -> land.cut(1));
    }

    // ---- promise 10: told

    @Sentence(in = "Promise 10", says = "- `what`: 0 its tourists, 1 the valleys of its list, 2 the minutes that it"
            + " takes, -1 if there is no way between two of them, 0 without any, 3 1 if it can go, else 0,"
            + " 4 its joy today, 5 its stings today")
    private static void p10What() {
        BlossomTours land = new BlossomTours();
        land.valley(0, 3, 50);
        land.valley(1, 1, 20);
        land.valley(1, 1, 20);
        land.tour(60);
        tells(land, "without any", 60, 0, 0, 0, 0, 0);
        land.add(0, 0);
        tells(land, "one valley", 60, 1, 50, 1, 44, 30);
        land.add(0, 1);
        tells(land, "no way", 60, 2, -1, 0, 0, 0);
        land.road(0, 1, 240);
        tells(land, "a way", 60, 2, 340, 1, 44, 30);
        land.pass(1);
        tells(land, "a day later", 60, 2, 340, 1, 94 + 94, 60 + 24);
        land.add(0, 2);
        tells(land, "no way to the last one", 60, 3, -1, 0, 0, 0);
        land.road(1, 2, 91);
        tells(land, "481 minutes", 60, 3, 481, 0, 0, 0);
        land.road(1, 2, 90);
        tells(land, "480 minutes", 60, 3, 480, 1, 94 * 3, 60 + 24 + 24);
        land.pass(2);
        tells(land, "behind the bloom", 60, 3, 480, 1, 0, 0);
        for (int n = 0; n < 3; n++) {
            land.cut(0);
        }
        tells(land, "without any again", 60, 0, 0, 0, 0, 0);
    }

    private static void tells(BlossomTours land, String when, int... due) {
        for (int what = 0; what < due.length; what++) {
            Check.equal(when + ", told(0, " + what + ")", land.told(0, what), due[what]);
        }
    }

    @Sentence(in = "Promise 10",
            says = "Throws `IndexOutOfBoundsException` if there is no such tour, or what is not 0 to 5")
    private static void p10ThrowsIndex() {
        BlossomTours land = Lands.valleys(1);
        Check.refused(land, "no tours", INDEX, () -> land.told(0, 0));
        for (int t = 0; t < 5; t++) {
            land.tour(t + 1);
        }
        for (int tour : new int[] {-1, 5, 6, LOW, HIGH}) {
            Check.refused(land, "tour " + tour, INDEX, () -> land.told(tour, 0));
        }
        for (int what : new int[] {-1, 6, 7, LOW, HIGH}) {
            Check.refused(land, "what " + what, INDEX, () -> land.told(0, what));
        }
        land.tour(60);
        Check.equal("the sixth one", land.told(5, 0), 60);
        Check.equal("what 5", land.told(5, 5), 0);
        Check.refused(land, "a seventh one", INDEX, () -> land.told(6, 0));
    }

    // ---- promise 11: about

    @Sentence(in = "Promise 11", says = "- `what`: 0 its first day, 1 its length, 2 its bees, 3 its bloom today,"
            + " 4 its crowd, 5 tours that can go and have it in their list")
    private static void p11What() {
        BlossomTours land = new BlossomTours();
        land.valley(1, 2, 3);
        land.valley(0, 1, 0);
        informs(land, "ahead of its bloom, no tours", 1, 2, 3, 0, 0, 0);
        Lands.tourThrough(land, 10, 0);
        Lands.tourThrough(land, 20, 1, 0);
        Lands.tourThrough(land, 40, 1);
        land.tour(60);
        informs(land, "one tour can go", 1, 2, 3, 0, 10, 1);
        land.road(0, 1, 240);
        land.pass(1);
        informs(land, "two can go, on its first day", 1, 2, 3, 100, 30, 2);
        land.add(2, 0);
        land.add(3, 0);
        land.pass(1);
        informs(land, "four go, on its last day", 1, 2, 3, 100, 130, 4);
        land.cut(0);
        land.tour(60);
        land.tour(60);
        land.add(4, 0);
        land.add(5, 0);
        land.pass(1);
        informs(land, "five go, behind its bloom", 1, 2, 3, 0, 240, 5);
    }

    private static void informs(BlossomTours land, String when, int... due) {
        for (int what = 0; what < due.length; what++) {
            Check.equal(when + ", about(0, " + what + ")", land.about(0, what), due[what]);
        }
    }

    @Sentence(in = "Promise 11",
            says = "Throws `IndexOutOfBoundsException` if there is no such valley, or what is not 0 to 5")
    private static void p11ThrowsIndex() {
        BlossomTours none = new BlossomTours();
        Check.refused(none, "no valleys", INDEX, () -> none.about(0, 0));
        BlossomTours land = Lands.valleys(7);
        for (int valley : new int[] {-1, 7, 8, LOW, HIGH}) {
            Check.refused(land, "valley " + valley, INDEX, () -> land.about(valley, 0));
        }
        for (int what : new int[] {-1, 6, 7, LOW, HIGH}) {
            Check.refused(land, "what " + what, INDEX, () -> land.about(0, what));
        }
        land.valley(90, 1, 0);
        Check.equal("the eighth one", land.about(7, 0), 90);
        Check.equal("what 5", land.about(7, 5), 0);
        Check.refused(land, "a ninth one", INDEX, () -> land.about(8, 0));
    }

    // ---- promise 12: count

    @Sentence(in = "Promise 12", says = "- `what`: 0 the day, 1 valleys, 2 roads, 3 tours, 4 tours that can go,"
            + " 5 valleys that bloom today, 6 coins, 7 joy in all, 8 stings in all")
    private static void p12What() {
        BlossomTours land = new BlossomTours();
        counts(land, "nothing", 0, 0, 0, 0, 0, 0, 0, 0, 0);
        land.valley(0, 2, 50);
        land.valley(1, 30, 50);
        land.valley(1, 1, 50);
        land.road(0, 1, 5);
        land.road(1, 0, 5);
        Lands.tourThrough(land, 60, 0, 1);
        Lands.tourThrough(land, 60, 0, 2);
        land.tour(60);
        land.tour(60);
        counts(land, "the day 0", 0, 3, 2, 4, 1, 1, 0, 0, 0);
        land.pass(1);
        counts(land, "the day 1", 1, 3, 2, 4, 1, 3, 56 + 30, 94, 60);
        land.cut(1);
        land.pass(1);
        counts(land, "the day 2", 2, 3, 2, 4, 2, 1, 86 + (52 + 30) * 2, 94 + 88 * 2, 60 + 63 + 60);
        land.pass(28);
        Check.equal("the last day of bloom", land.count(5), 1);
        land.pass(1);
        Check.equal("behind all bloom", land.count(5), 0);
    }

    private static void counts(BlossomTours land, String when, int... due) {
        for (int what = 0; what < due.length; what++) {
            Check.equal(when + ", count(" + what + ")", land.count(what), due[what]);
        }
    }

    @Sentence(in = "Promise 12", says = "Throws `IndexOutOfBoundsException` if what is not 0 to 8")
    private static void p12ThrowsIndex() {
        BlossomTours land = Lands.full();
        for (int what : new int[] {-1, 9, 10, LOW, HIGH}) {
            Check.refused(land, "what " + what, INDEX, () -> land.count(what));
        }
        Check.equal("what 0", land.count(0), 0);
        Check.equal("what 8", land.count(8), 0);
    }

    // ---- promise 13: pass

    @Sentence(in = "Promise 13", says = "Lets days go by.")
    private static void p13LetsDaysGoBy() {
        BlossomTours land = Lands.valleys(1);
        land.pass(1);
        Check.equal("one day", land.count(0), 1);
        land.pass(60);
        Check.equal("sixty more", land.count(0), 61);
        Check.equal("the bloom is over", land.about(0, 3), 0);
    }

    @Sentence(in = "Promise 13", says = "Returns how many coins come in.")
    private static void p13Returns() {
        BlossomTours land = Lands.valleys(1);
        Check.equal("without tours", land.pass(60), 0);
        BlossomTours going = Lands.valleys(1);
        Lands.tourThrough(going, 40, 0);
        Check.equal("the day 0: 96 * 40 / 100 and 20", going.pass(1), 38 + 20);
        Check.equal("60 days, not those of day 0 too", going.pass(60), 60 * 20);
        Check.equal("coins in all", going.count(6), 58 + 1200);
        going.setHeat(1, 0);
        Check.equal("a day without bloom and heat", going.pass(1), 0);
        going.setHeat(2, 40);
        Check.equal("a week", going.pass(7), 40 + 6 * 20);
    }

    @Sentence(in = "Promise 13", says = "Throws `IllegalArgumentException` if days is not 1 to 60")
    private static void p13ThrowsArgument() {
        BlossomTours land = Lands.full();
        for (int days : new int[] {0, -1, 61, LOW, HIGH}) {
            Check.refused(land, days + " days", ARGUMENT, () -> land.pass(days));
        }
        land.pass(60);
        land.pass(1);
        Check.equal("60 days and 1", land.count(0), 61);
    }

    // ---- promise 14: joy

    @Sentence(in = "Promise 14", says = "Returns its joy on this day, as lists are now.")
    private static void p14Returns() {
        BlossomTours land = new BlossomTours();
        land.valley(0, 3, 0);
        land.valley(2, 1, 0);
        land.road(0, 1, 240);
        land.tour(60);
        Check.equal("an empty list", land.joy(0, 1), 0);
        land.add(0, 0);
        land.pass(60);
        Check.equal("the first day, long ago", land.joy(0, 0), 44);
        Check.equal("its middle", land.joy(0, 1), 94);
        Check.equal("its last day", land.joy(0, 2), 44);
        Check.equal("behind it", land.joy(0, 3), 0);
        Check.equal("today", land.joy(0, 60), 0);
        Check.equal("the greatest day", land.joy(0, HIGH), 0);
        land.add(0, 1);
        Check.equal("with another valley now", land.joy(0, 2), 44 + 94);
        Lands.tourThrough(land, 40, 0);
        Check.equal("with another tour now", land.joy(0, 2), 40 + 94);
        land.cut(0);
        land.cut(0);
        Check.equal("an empty list again", land.joy(0, 2), 0);
    }

    @Sentence(in = "Promise 14", says = "Throws `IndexOutOfBoundsException` if there is no such tour")
    private static void p14ThrowsIndex() {
        BlossomTours land = Lands.valleys(1);
        Check.refused(land, "no tours", INDEX, () -> land.joy(0, 0));
        for (int t = 0; t < 5; t++) {
            Lands.tourThrough(land, 1, 0);
        }
        for (int tour : new int[] {-1, 5, 6, LOW, HIGH}) {
            Check.refused(land, "tour " + tour, INDEX, () -> land.joy(tour, 0));
        }
        Lands.tourThrough(land, 1, 0);
        Check.equal("the sixth one", land.joy(5, 0), 100);
        Check.refused(land, "a seventh one", INDEX, () -> land.joy(6, 0));
    }

    @Sentence(in = "Promise 14", says = "Throws `IllegalArgumentException` if day is less than 0")
    private static void p14ThrowsArgument() {
        BlossomTours land = Lands.valleys(1);
        Lands.tourThrough(land, 9, 0);
        land.tour(9);
        Check.refused(land, "day -1", ARGUMENT, () -> land.joy(0, -1));
        Check.refused(land, "the least day", ARGUMENT, () -> land.joy(0, LOW));
        Check.refused(land, "of a tour that cannot go", ARGUMENT, () -> land.joy(1, -1));
        Check.equal("day 0", land.joy(0, 0), 100);
    }

    // ---- promise 15: best

    // No valley blooms behind day 119, and the best joy that can be ahead lies on
    // day 104: whether the look ends 119 days later or further on cannot be seen.
    @Sentence(in = "Promise 15", says = "Returns the day from today on, at most 119 later, on which its joy is the"
            + " greatest, of several the earliest one; -1 if it is 0 on all of them.")
    private static void p15Returns() {
        BlossomTours land = new BlossomTours();
        land.valley(90, 30, 0);
        land.valley(0, 4, 0);
        land.tour(1);
        Check.equal("an empty list: 0 on all", land.best(0), -1);
        land.add(0, 0);
        Check.equal("104 days later, of two the earlier one", land.best(0), 104);
        land.add(0, 1);
        Check.equal("it cannot go: 0 on all", land.best(0), -1);
        land.road(0, 1, 1);
        Check.equal("of four the earliest one", land.best(0), 1);
        land.pass(2);
        Check.equal("today, of three", land.best(0), 2);
        land.pass(1);
        Check.equal("not a day gone by, nor today", land.best(0), 104);
        land.pass(60);
        land.pass(42);
        Check.equal("today is the second of two", land.best(0), 105);
        land.pass(14);
        Check.equal("today is the last day of bloom", land.best(0), 119);
        land.pass(1);
        Check.equal("behind all bloom", land.best(0), -1);

        BlossomTours crowded = new BlossomTours();
        crowded.valley(0, 30, 0);
        Lands.tourThrough(crowded, 60, 0);
        Check.equal("the greatest in a crowd", crowded.best(0), 14);
        crowded.pass(28);
        Check.equal("a joy of 7 today", crowded.best(0), 28);
        crowded.pass(1);
        Check.equal("bloom, but a joy of 0 in the crowd", crowded.best(0), -1);
        Lands.tourThrough(crowded, 1, 0);
        crowded.cut(0);
        Lands.tourThrough(crowded, 49, 0);
        Check.equal("a joy of 1 in a smaller crowd", crowded.best(2), 29);
    }

    @Sentence(in = "Promise 15", says = "Throws `IndexOutOfBoundsException` if there is no such tour")
    private static void p15ThrowsIndex() {
        BlossomTours land = Lands.valleys(1);
        Check.refused(land, "no tours", INDEX, () -> land.best(0));
        for (int t = 0; t < 5; t++) {
            Lands.tourThrough(land, 1, 0);
        }
        for (int tour : new int[] {-1, 5, 6, LOW, HIGH}) {
            Check.refused(land, "tour " + tour, INDEX, () -> land.best(tour));
        }
        Lands.tourThrough(land, 1, 0);
        Check.equal("the sixth one", land.best(5), 0);
        Check.refused(land, "a seventh one", INDEX, () -> land.best(6));
    }

    // ---- promise 16: advise

    @Sentence(in = "Promise 16", says = "Returns the valley by which, added to the end of its list, its joy today"
            + " would become the greatest, of several the one with the smallest number; -1 if it would become"
            + " greater by none (also if it has 5; nothing is changed).")
    private static void p16Returns() {
        adviseTheGreatest();
        adviseAtTheEnd();
        adviseNone();
        adviseChangesNothing();
    }

    private static void adviseTheGreatest() {
        BlossomTours land = new BlossomTours();
        land.valley(0, 3, 0);
        land.valley(0, 1, 0);
        land.valley(0, 2, 0);
        land.valley(1, 1, 0);
        land.road(0, 1, 1);
        land.road(0, 2, 1);
        land.road(0, 3, 1);
        land.tour(20);
        Check.equal("of 48, 98 and 98", land.advise(0), 1);
        Lands.tourThrough(land, 10, 1);
        Check.equal("of 48, 97 and 98", land.advise(0), 2);
        land.add(0, 2);
        Check.equal("of 48 and 97 more, not the one that it has", land.advise(0), 1);
        land.add(0, 1);
        Check.equal("48 more", land.advise(0), 0);
        land.add(0, 0);
        Check.equal("bloom tomorrow is not joy today", land.advise(0), -1);
        land.pass(1);
        Check.equal("a day later it is", land.advise(0), 3);
    }

    private static void adviseAtTheEnd() {
        BlossomTours land = new BlossomTours();
        land.valley(0, 1, 0);
        land.valley(0, 1, 0);
        land.valley(0, 2, 0);
        land.road(0, 1, 240);
        land.road(1, 2, 91);
        Lands.tourThrough(land, 1, 0, 1);
        Check.equal("481 minutes", land.advise(0), -1);
        land.road(1, 2, 90);
        Check.equal("480 minutes", land.advise(0), 2);
        Lands.tourThrough(land, 1, 1, 0);
        Check.equal("the end is elsewhere", land.advise(1), -1);
        Lands.tourThrough(land, 1, 2);
        Check.equal("from there to both others", land.advise(2), 0);
    }

    private static void adviseNone() {
        BlossomTours none = new BlossomTours();
        none.tour(1);
        Check.equal("no valleys", none.advise(0), -1);
        BlossomTours far = Lands.valleys(2);
        Check.equal("to an empty list any valley", far.advise(far.tour(1)), 0);
        far.add(0, 0);
        Check.equal("no way", far.advise(0), -1);
        far.pass(1);
        Check.equal("no bloom", far.advise(far.tour(1)), -1);
        Check.equal("no bloom, nor where it is already", far.advise(0), -1);

        BlossomTours crowded = new BlossomTours();
        crowded.valley(0, 1, 0);
        crowded.valley(0, 30, 0);
        crowded.road(0, 1, 1);
        Lands.tourThrough(crowded, 60, 0);
        Check.equal("greater by 0: 6 less its own 6", crowded.advise(0), -1);
        Lands.tourThrough(crowded, 59, 0);
        Check.equal("greater by 1: 6 less its own 5", crowded.advise(1), 1);

        BlossomTours full = Lands.row(6);
        Lands.tourThrough(full, 1, 0, 1, 2, 3, 4);
        Check.equal("it has 5", full.advise(0), -1);
        full.cut(0);
        Check.equal("it has 4", full.advise(0), 4);
    }

    private static void adviseChangesNothing() {
        BlossomTours land = Lands.row(8);
        Lands.tourThrough(land, 60, 0, 1, 2, 3, 4);
        Lands.tourThrough(land, 60, 3, 2);
        land.tour(60);
        long before = land.digest();
        for (int t = 0; t < 3; t++) {
            land.advise(t);
            Check.equal("behind advise(" + t + ")", land.digest(), before);
        }
        Check.equal("valleys of the list", land.told(1, 1), 2);
        Check.equal("the last of them", land.cut(1), 2);
        Check.equal("none in the other list", land.told(2, 1), 0);
    }

    @Sentence(in = "Promise 16", says = "Throws `IndexOutOfBoundsException` if there is no such tour")
    private static void p16ThrowsIndex() {
        BlossomTours land = Lands.valleys(1);
        Check.refused(land, "no tours", INDEX, () -> land.advise(0));
        for (int t = 0; t < 5; t++) {
            land.tour(1);
        }
        for (int tour : new int[] {-1, 5, 6, LOW, HIGH}) {
            Check.refused(land, "tour " + tour, INDEX, () -> land.advise(tour));
        }
        land.tour(1);
        Check.equal("the sixth one", land.advise(5), 0);
        Check.refused(land, "a seventh one", INDEX, () -> land.advise(6));
    }

    // ---- promise 17: foresee

    @Sentence(in = "Promise 17", says = "- `what`: 5, 6, 7 or 8 as count() has it")
    private static void p17What() {
        BlossomTours land = new BlossomTours();
        land.valley(0, 1, 50);
        land.valley(1, 2, 50);
        Lands.tourThrough(land, 60, 0);
        Lands.tourThrough(land, 60, 1);
        Check.equal("valleys that bloom", land.foresee(1, 5), 1);
        Check.equal("coins", land.foresee(1, 6), 56 + 30 + 30);
        Check.equal("joy in all", land.foresee(1, 7), 94);
        Check.equal("stings in all", land.foresee(1, 8), 60);
        land.pass(1);
        Check.equal("valleys that bloom a day later", land.foresee(2, 5), 0);
        Check.equal("coins, with those that are there", land.foresee(2, 6), 116 + 2 * (56 + 30 + 30));
        Check.equal("joy in all, with that which is there", land.foresee(2, 7), 3 * 94);
        Check.equal("stings in all, with those that are there", land.foresee(2, 8), 3 * 60);
    }

    @Sentence(in = "Promise 17", says = "Returns this, behind so many days, if nothing is done (nothing is changed).")
    private static void p17Returns() {
        for (int days = 1; days <= 60; days += days == 1 ? 8 : 1) {
            BlossomTours land = Lands.row(3);
            land.valley(days, 1, 50);
            land.valley(days - 1, 1, 50);
            land.valley(5, 30, 50);
            land.setHeat(7, 40);
            Lands.tourThrough(land, 60, 3);
            Lands.tourThrough(land, 33, 4);
            Lands.tourThrough(land, 60, 5);
            Lands.tourThrough(land, 60, 0, 5);
            long before = land.digest();
            int[] foreseen = new int[9];
            for (int what = 5; what <= 8; what++) {
                foreseen[what] = land.foresee(days, what);
                Check.equal("digest behind foresee(" + days + ", " + what + ")", land.digest(), before);
            }
            land.pass(days);
            for (int what = 5; what <= 8; what++) {
                Check.equal("foresee(" + days + ", " + what + ")", foreseen[what], land.count(what));
            }
        }
        Check.equal("nothing to come", new BlossomTours().foresee(60, 6), 0);
        Check.equal("no valleys to bloom", new BlossomTours().foresee(1, 5), 0);
    }

    @Sentence(in = "Promise 17", says = "Throws `IllegalArgumentException` if days is not 1 to 60")
    private static void p17ThrowsArgument() {
        BlossomTours land = Lands.full();
        for (int days : new int[] {0, -1, 61, LOW, HIGH}) {
            for (int what = 5; what <= 8; what++) {
                int asked = what;
                Check.refused(land, days + " days, what " + what, ARGUMENT, () -> land.foresee(days, asked));
            }
        }
        Check.equal("1 day", land.foresee(1, 5), 0);
        Check.equal("60 days", land.foresee(60, 5), 0);
    }

    @Sentence(in = "Promise 17", says = "Throws `IndexOutOfBoundsException` if what is not 5 to 8")
    private static void p17ThrowsIndex() {
        BlossomTours land = Lands.full();
        for (int what : new int[] {4, 9, 0, -1, LOW, HIGH}) {
            Check.refused(land, "what " + what + ", 1 day", INDEX, () -> land.foresee(1, what));
            Check.refused(land, "what " + what + ", 60 days", INDEX, () -> land.foresee(60, what));
        }
        Check.equal("what 5", land.foresee(1, 5), 0);
        Check.isTrue("what 8", land.foresee(1, 8) > 0);
    }

    // ---- promise 18: mean

    @Sentence(in = "Promise 18", says = "Returns the mean bloom of all valleys today; 0 if there are none.")
    private static void p18Returns() {
        BlossomTours land = new BlossomTours();
        Check.equal("none", land.mean(), 0.0);
        Check.isTrue("no 0 of less than 0", 1.0 / land.mean() > 0.0);
        land.valley(1, 1, 0);
        Check.equal("one, ahead of its bloom", land.mean(), 0.0);
        Check.equal("one, in bloom", Lands.valleys(1).mean(), 100.0);
        land.valley(0, 5, 0);
        Check.equal("0 and 33, not cut", land.mean(), 16.5);
        land.valley(0, 6, 0);
        Check.equal("0, 33 and 33", land.mean(), 66.0 / 3.0);
        land.pass(1);
        Check.equal("100, 66 and 66", land.mean(), 232.0 / 3.0);
        land.pass(5);
        Check.equal("behind all bloom", land.mean(), 0.0);
        Check.equal("eight in full bloom", Lands.valleys(8).mean(), 100.0);
    }

    // ---- promise 19: digest

    @Sentence(in = "Promise 19", says = "Computes a checksum. A number d starts with 1213; for each of the following"
            + " numbers x, d becomes d * 31 + x, which wraps around as a 64-bit integer: what count() tells, in its"
            + " order; the heat of each day of the table; for each valley what about() tells, in its order, and its"
            + " way to each valley, from 0 on; for each tour what told() tells, in its order, and the valleys of its"
            + " list.")
    private static void p19Computes() {
        Check.equal("of nothing", new BlossomTours().digest(),
                wrapped(0, 0, 0, 0, 0, 0, 0, 0, 0, 20, 20, 20, 20, 20, 20, 20, 20, 20, 20));
        BlossomTours land = new BlossomTours();
        land.valley(0, 1, 10);
        Check.equal("of one valley", land.digest(),
                wrapped(0, 1, 0, 0, 0, 1, 0, 0, 0, 20, 20, 20, 20, 20, 20, 20, 20, 20, 20,
                        0, 1, 10, 100, 0, 0, 0));
        land.valley(2, 30, 50);
        land.tour(60);
        land.setHeat(0, 0);
        land.setHeat(9, 40);
        Check.equal("of no way and an empty list", land.digest(),
                wrapped(0, 2, 0, 1, 0, 1, 0, 0, 0, 0, 20, 20, 20, 20, 20, 20, 20, 20, 40,
                        0, 1, 10, 100, 0, 0, 0, -1,
                        2, 30, 50, 0, 0, 0, -1, 0,
                        60, 0, 0, 0, 0, 0));
        land.add(0, 1);
        land.add(0, 0);
        Lands.tourThrough(land, 40, 0);
        Check.equal("of a list without a way", land.digest(),
                wrapped(0, 2, 0, 2, 1, 1, 0, 0, 0, 0, 20, 20, 20, 20, 20, 20, 20, 20, 40,
                        0, 1, 10, 100, 40, 1, 0, -1,
                        2, 30, 50, 0, 0, 0, -1, 0,
                        60, 2, -1, 0, 0, 0, 1, 0,
                        40, 1, 50, 1, 96, 8, 0));
        land.road(1, 0, 240);
        land.pass(3);
        Check.equal("of days gone by", land.digest(),
                wrapped(3, 2, 1, 2, 2, 1, (54 + 36) + 2 * (30 + 20), 90 + 90, 12 + 8 + 3,
                        0, 20, 20, 20, 20, 20, 20, 20, 20, 40,
                        0, 1, 10, 0, 100, 2, 0, 240,
                        2, 30, 50, 13, 60, 1, 240, 0,
                        60, 2, 340, 1, 7, 7, 1, 0,
                        40, 1, 50, 1, 0, 0, 0));
    }

    /** The same reckoning without a bound, cut to 64 bits at its end. */
    private static long wrapped(int... numbers) {
        BigInteger d = BigInteger.valueOf(1213);
        for (int x : numbers) {
            d = d.multiply(BigInteger.valueOf(31)).add(BigInteger.valueOf(x));
        }
        return d.longValue();
    }
}
