/** For each sentence of "What it is" and "Terms" that names a boundary case a test of its own. */
public final class TermSentencesTest {
    private static final Class<IndexOutOfBoundsException> INDEX = IndexOutOfBoundsException.class;
    private static final Class<IllegalArgumentException> ARGUMENT = IllegalArgumentException.class;
    private static final Class<IllegalStateException> STATE = IllegalStateException.class;
    private static final int LOW = Integer.MIN_VALUE;
    private static final int HIGH = Integer.MAX_VALUE;

    public static void main(String[] args) {
        new SentenceTests(TermSentencesTest.class).run();
        Check.end();
    }

    @Sentence(in = "What it is", says = "An object is used for at most 512 calls after it has been made;")
    private static void call512IsAnswered() {
        BlossomTours land = new BlossomTours();
        land.valley(90, 1, 50);
        land.tour(60);
        land.add(0, 0);
        int coins = 0;
        for (int call = 4; call <= 511; call++) {
            coins += land.pass(60);
        }
        // 30 for fans on each day, and 94 * 60 / 100 for the joy of one.
        Check.equal("coins of 508 * 60 days", coins, 508 * 60 * 30 + 56);
        Check.equal("call 512, count(0)", land.count(0), 508 * 60);
    }

    // ---- numbers and days

    @Sentence(in = "Terms", says = "All numbers are whole, and / is cut towards 0.")
    private static void divisionsAreCut() {
        BlossomTours land = new BlossomTours();
        land.valley(0, 5, 49);
        land.tour(59);
        Check.equal("100 * 1 / 3", land.bloom(0, 0), 33);
        Check.equal("100 * 2 / 3", land.bloom(0, 1), 66);
        land.add(0, 0);
        Check.equal("33 less 59 / 10", land.told(0, 4), 28);
        Check.equal("59 * 49 * 33 / 5000", land.told(0, 5), 19);
        Check.equal("28 * 59 / 100 and 59 * 20 / 40", land.pass(1), 16 + 29);
    }

    @Sentence(in = "Terms", says = "Days are told from 0.")
    private static void theFirstDayIs0() {
        BlossomTours land = Lands.valleys(1);
        Check.equal("the first day", land.count(0), 0);
        Check.equal("bloom from day 0 on is bloom today", land.about(0, 3), 100);
        land.pass(1);
        Check.equal("the second day", land.count(0), 1);
        Check.equal("the bloom of day 0 is over", land.about(0, 3), 0);
    }

    // ---- valleys

    @Sentence(in = "Terms", says = "There are at most 8, numbered from 0 in the order of their telling;")
    private static void eightValleysInOrder() {
        BlossomTours land = new BlossomTours();
        for (int v = 0; v < 8; v++) {
            Check.equal("number of valley " + v, land.valley(80 - v, 1, 0), v);
        }
        Check.refused(land, "a ninth one", STATE, () -> land.valley(0, 1, 0));
        Check.equal("there are 8", land.count(1), 8);
        for (int v = 0; v < 8; v++) {
            Check.equal("first day of valley " + v, land.about(v, 0), 80 - v);
        }
    }

    @Sentence(in = "Terms",
            says = "each blooms from a day, 0 to 90, on for a length of 1 to 30 days, and has bees, 0 to 50.")
    private static void leastAndGreatestValleys() {
        for (int from = 0; from <= 90; from += 90) {
            for (int length = 1; length <= 30; length += 29) {
                for (int bees = 0; bees <= 50; bees += 50) {
                    blooms(from, length, bees);
                }
            }
        }
    }

    private static void blooms(int from, int length, int bees) {
        BlossomTours land = new BlossomTours();
        String what = "valley(" + from + ", " + length + ", " + bees + ")";
        Check.equal(what, land.valley(from, length, bees), 0);
        Check.equal(what + ", its first day", land.about(0, 0), from);
        Check.equal(what + ", its length", land.about(0, 1), length);
        Check.equal(what + ", its bees", land.about(0, 2), bees);
        int days = 0;
        for (int day = 0; day <= 130; day++) {
            days += land.bloom(0, day) > 0 ? 1 : 0;
        }
        Check.equal(what + ", days of bloom", days, length);
    }

    @Sentence(in = "Terms", says = "0 ahead of its first day and behind its last one;")
    private static void noBloomAheadAndBehind() {
        for (int length = 1; length <= 30; length++) {
            BlossomTours land = new BlossomTours();
            land.valley(10, length, 0);
            Check.equal(length + " days, the day 0", land.bloom(0, 0), 0);
            Check.equal(length + " days, ahead of the first one", land.bloom(0, 9), 0);
            Check.isTrue(length + " days, on the first one", land.bloom(0, 10) > 0);
            Check.isTrue(length + " days, on the last one", land.bloom(0, 9 + length) > 0);
            Check.equal(length + " days, behind the last one", land.bloom(0, 10 + length), 0);
            Check.equal(length + " days, on the last day of all", land.bloom(0, HIGH), 0);
        }
    }

    @Sentence(in = "Terms", says = "otherwise 100 * n / m, where n is the lesser one of the days from its first one"
            + " to this, with both, and from this to its last one, with both, and m is (length + 1) / 2.")
    private static void bloomRisesAndFalls() {
        int[][] due = {{100}, {100, 100}, {50, 100, 50}, {50, 100, 100, 50}, {33, 66, 100, 66, 33},
            {33, 66, 100, 100, 66, 33}, {25, 50, 75, 100, 75, 50, 25}};
        for (int[] blooms : due) {
            BlossomTours land = new BlossomTours();
            land.valley(90, blooms.length, 0);
            for (int i = 0; i < blooms.length; i++) {
                Check.equal("day " + (i + 1) + " of " + blooms.length, land.bloom(0, 90 + i), blooms[i]);
            }
        }
        BlossomTours longest = new BlossomTours();
        longest.valley(0, 30, 0);
        longest.valley(0, 29, 0);
        for (int n = 1; n <= 15; n++) {
            Check.equal("30 days, day " + n, longest.bloom(0, n - 1), 100 * n / 15);
            Check.equal("30 days, day " + n + " from the end", longest.bloom(0, 30 - n), 100 * n / 15);
            Check.equal("29 days, day " + n, longest.bloom(1, n - 1), 100 * n / 15);
            Check.equal("29 days, day " + n + " from the end", longest.bloom(1, 29 - n), 100 * n / 15);
        }
    }

    // ---- roads

    @Sentence(in = "Terms", says = "There are at most 20, each between two valleys, both ways, in 1 to 240 minutes.")
    private static void twentyRoadsBothWays() {
        BlossomTours land = Lands.valleys(4);
        land.road(0, 1, 1);
        land.road(3, 2, 240);
        Check.equal("1 minute there", land.way(0, 1), 1);
        Check.equal("1 minute back", land.way(1, 0), 1);
        Check.equal("240 minutes there", land.way(3, 2), 240);
        Check.equal("240 minutes back", land.way(2, 3), 240);
        for (int road = 3; road <= 20; road++) {
            Check.equal("road " + road, land.road(1, 2, 100 - road), road);
        }
        Check.equal("road 20 counts", land.way(1, 2), 80);
        Check.refused(land, "road 21", STATE, () -> land.road(1, 2, 1));
        Check.equal("road 21 is not there", land.way(1, 2), 80);
    }

    @Sentence(in = "Terms", says = "Way between two valleys: the fewest minutes by roads;"
            + " 0 from a valley to itself; none, if no roads lead there.")
    private static void fewestMinutes() {
        BlossomTours land = Lands.valleys(8);
        Check.equal("to itself, without roads", land.way(7, 7), 0);
        Check.equal("no roads", land.way(0, 7), -1);
        for (int v = 6; v > 0; v--) {
            land.road(v, v - 1, 240);
        }
        Check.equal("six of the longest", land.way(0, 6), 6 * 240);
        Check.equal("roads, but none there", land.way(0, 7), -1);
        Check.equal("nor back", land.way(7, 0), -1);
        land.road(6, 7, 240);
        Check.equal("the longest way there can be", land.way(0, 7), 7 * 240);
        land.road(2, 4, 239);
        Check.equal("a shorter road is taken", land.way(0, 7), 5 * 240 + 239);
        land.road(1, 2, 240);
        Check.equal("an equal one changes nothing", land.way(0, 7), 5 * 240 + 239);
        land.road(0, 7, 240);
        land.road(7, 0, 239);
        land.road(0, 7, 240);
        Check.equal("the shortest of three", land.way(0, 7), 239);
        Check.equal("the other way round", land.way(0, 6), 239 + 240);
        Check.equal("to itself, not there and back", land.way(0, 0), 0);
    }

    // ---- tours

    @Sentence(in = "Terms", says = "There are at most 6, numbered likewise;")
    private static void sixToursInOrder() {
        BlossomTours land = new BlossomTours();
        for (int t = 0; t < 6; t++) {
            Check.equal("number of tour " + t, land.tour(60 - t), t);
        }
        Check.refused(land, "a seventh one", STATE, () -> land.tour(1));
        Check.equal("there are 6", land.count(3), 6);
        for (int t = 0; t < 6; t++) {
            Check.equal("tourists of tour " + t, land.told(t, 0), 60 - t);
        }
    }

    @Sentence(in = "Terms", says = "each has tourists, 1 to 60, and a list of at most 5 valleys"
            + " (none, at first), none of which is in it twice.")
    private static void listOfATour() {
        BlossomTours land = Lands.row(8);
        land.tour(1);
        land.tour(60);
        Check.equal("the fewest tourists", land.told(0, 0), 1);
        Check.equal("the most tourists", land.told(1, 0), 60);
        for (int v = 0; v < 5; v++) {
            int valley = v;
            Check.equal("valleys ahead of valley " + v, land.told(0, 1), v);
            land.add(0, v);
            Check.refused(land, "valley " + v + " twice", STATE, () -> land.add(0, valley));
        }
        Check.refused(land, "the first one twice", STATE, () -> land.add(0, 0));
        Check.refused(land, "a sixth one", STATE, () -> land.add(0, 7));
        Check.equal("there are 5", land.told(0, 1), 5);
        Check.equal("none in the other list", land.told(1, 1), 0);
    }

    @Sentence(in = "Terms", says = "A tour takes 50 minutes in each valley, and the ways between those that are"
            + " one behind the other in its list;")
    private static void minutesOfATour() {
        BlossomTours land = new BlossomTours();
        for (int v = 0; v < 4; v++) {
            land.valley(0, 1, 0);
        }
        land.road(0, 1, 1);
        land.road(1, 2, 20);
        land.tour(1);
        land.add(0, 0);
        Check.equal("one valley, and no way", land.told(0, 2), 50);
        land.add(0, 2);
        Check.equal("through a valley that is not in the list", land.told(0, 2), 100 + 21);
        land.add(0, 1);
        Check.equal("and back to that one", land.told(0, 2), 150 + 21 + 20);
        land.cut(0);
        land.cut(0);
        land.add(0, 1);
        land.add(0, 2);
        Check.equal("in another order", land.told(0, 2), 150 + 1 + 20);
        land.road(0, 2, 2);
        Check.equal("by a new road", land.told(0, 2), 150 + 1 + 3);
    }

    @Sentence(in = "Terms", says = "it can go, if it has a valley, there are ways between all of these,"
            + " and it takes at most 480 minutes.")
    private static void toursThatCanGo() {
        BlossomTours land = new BlossomTours();
        for (int v = 0; v < 5; v++) {
            land.valley(0, 1, 0);
        }
        land.tour(1);
        Check.equal("no valley", land.told(0, 3), 0);
        land.add(0, 0);
        Check.equal("a valley", land.told(0, 3), 1);
        land.add(0, 1);
        Check.equal("no way", land.told(0, 3), 0);
        land.road(0, 1, 240);
        Check.equal("a way, 340 minutes", land.told(0, 3), 1);
        land.road(1, 2, 91);
        land.add(0, 2);
        Check.equal("481 minutes", land.told(0, 3), 0);
        Check.equal("these are told though", land.told(0, 2), 481);
        land.road(1, 2, 90);
        Check.equal("480 minutes", land.told(0, 3), 1);
        Check.equal("which are told", land.told(0, 2), 480);
        land.road(3, 4, 1);
        land.add(0, 3);
        land.add(0, 4);
        Check.equal("no way in the middle of the list", land.told(0, 3), 0);
        Check.equal("no minutes then", land.told(0, 2), -1);
        for (int n = 0; n < 5; n++) {
            land.cut(0);
        }
        Check.equal("no valley any more", land.told(0, 3), 0);
    }

    @Sentence(in = "Terms", says = "Tours that can go do so each day.")
    private static void toursGoEachDay() {
        BlossomTours land = Lands.valleys(2);
        Lands.tourThrough(land, 40, 0);
        Lands.tourThrough(land, 40, 0, 1);
        land.tour(40);
        Check.equal("one of three on one day: 96 * 40 / 100 and 20", land.pass(1), 38 + 20);
        Check.equal("on 60 days, without bloom too", land.pass(60), 60 * 20);
        land.cut(1);
        Check.equal("two of three", land.pass(2), 2 * 2 * 20);
    }

    @Sentence(in = "Terms",
            says = "Crowd of a valley: the tourists of all tours that can go and have it in their list, added.")
    private static void crowdOfAValley() {
        BlossomTours land = Lands.valleys(2);
        Check.equal("no tours", land.about(0, 4), 0);
        for (int t = 0; t < 6; t++) {
            land.tour(60);
            Check.equal("tour " + t + " does not have it", land.about(0, 4), 60 * t);
            land.add(t, 0);
            Check.equal("tour " + t + " has it", land.about(0, 4), 60 * (t + 1));
        }
        land.add(5, 1);
        Check.equal("one cannot go", land.about(0, 4), 300);
        Check.equal("to neither", land.about(1, 4), 0);
        land.road(0, 1, 240);
        Check.equal("now it can", land.about(0, 4), 360);
        Check.equal("to both", land.about(1, 4), 60);
        land.pass(60);
        Check.equal("without bloom too", land.about(0, 4), 360);
    }

    @Sentence(in = "Terms", says = "Joy of a tour on a day: for each valley of its list the bloom on this day,"
            + " less a tenth (cut) of the crowd there, at least 0; all added.")
    private static void joyInACrowd() {
        BlossomTours land = new BlossomTours();
        land.valley(0, 30, 0);
        land.valley(0, 1, 0);
        land.road(0, 1, 1);
        land.tour(9);
        land.add(0, 0);
        Check.equal("a crowd of 9: 6 less 0", land.told(0, 4), 6);
        Lands.tourThrough(land, 1, 0);
        Check.equal("a crowd of 10: 6 less 1", land.told(0, 4), 5);
        Lands.tourThrough(land, 49, 0);
        Check.equal("a crowd of 59: 6 less 5", land.told(0, 4), 1);
        Lands.tourThrough(land, 1, 0);
        Check.equal("a crowd of 60: 6 less 6", land.told(0, 4), 0);
        Lands.tourThrough(land, 60, 0);
        Check.equal("a crowd of 120: not 6 less 12", land.told(0, 4), 0);
        land.add(0, 1);
        Check.equal("nor is that taken from 100 elsewhere", land.told(0, 4), 100);
        Check.equal("2 days on: 20 less 12", land.joy(0, 2), 8);
    }

    @Sentence(in = "Terms", says = "Stings of a tour on a day: for each valley of its list"
            + " tourists * bees * bloom / 5000; all added.")
    private static void stingsAreCutForEachValley() {
        BlossomTours land = new BlossomTours();
        land.valley(0, 1, 50);
        land.valley(0, 1, 49);
        land.valley(0, 1, 49);
        land.valley(0, 1, 0);
        land.road(0, 1, 1);
        land.road(1, 2, 1);
        land.road(2, 3, 1);
        Lands.tourThrough(land, 1, 0);
        Check.equal("5000 / 5000", land.told(0, 5), 1);
        Lands.tourThrough(land, 1, 1, 2);
        Check.equal("4900 / 5000 twice", land.told(1, 5), 0);
        Lands.tourThrough(land, 60, 3);
        Check.equal("no bees", land.told(2, 5), 0);
        Lands.tourThrough(land, 60, 0, 3, 1);
        Check.equal("60, 0 and 58", land.told(3, 5), 118);
        land.pass(1);
        Check.equal("no bloom", land.told(3, 5), 0);

        BlossomTours cut = new BlossomTours();
        cut.valley(0, 11, 23);
        Lands.tourThrough(cut, 55, 0);
        cut.pass(4);
        Check.equal("55 * 23 * 83 / 5000, nearly 21", cut.told(0, 5), 20);
    }

    @Sentence(in = "Terms", says = "A tour that cannot go has a joy and stings of 0.")
    private static void noJoyWithoutGoing() {
        BlossomTours land = new BlossomTours();
        for (int v = 0; v < 3; v++) {
            land.valley(0, 1, 50);
        }
        land.road(0, 1, 240);
        land.road(0, 1, 240);
        Lands.tourThrough(land, 60, 0, 1);
        Check.equal("joy, going", land.told(0, 4), 94 + 94);
        Check.equal("stings, going", land.told(0, 5), 60 + 60);
        land.add(0, 2);
        Check.equal("joy without a way", land.told(0, 4), 0);
        Check.equal("joy of this day without a way", land.joy(0, 0), 0);
        Check.equal("stings without a way", land.told(0, 5), 0);
        land.road(1, 2, 91);
        Check.equal("joy with 481 minutes", land.told(0, 4), 0);
        Check.equal("joy of this day with 481 minutes", land.joy(0, 0), 0);
        Check.equal("stings with 481 minutes", land.told(0, 5), 0);
        land.tour(60);
        Check.equal("joy without a valley", land.told(1, 4), 0);
        Check.equal("stings without a valley", land.told(1, 5), 0);
        Check.equal("nothing comes in", land.pass(1), 0);
        Check.equal("nothing comes to joy in all", land.count(7), 0);
        Check.equal("nothing comes to stings in all", land.count(8), 0);
    }

    // ---- heat and days

    @Sentence(in = "Terms", says = "A table tells for each of 10 days (the day by the remainder of 10) the heat,"
            + " 0 to 40 (20, at first).")
    private static void heatByTheRemainderOf10() {
        BlossomTours land = new BlossomTours();
        land.valley(90, 1, 0);
        Lands.tourThrough(land, 40, 0);
        Check.equal("20 at first, on the day 0", land.pass(1), 20);
        Check.equal("20 at first, on the days 1 to 9", land.pass(9), 9 * 20);
        for (int day = 0; day < 10; day++) {
            Check.equal("20 at first, in the table", land.setHeat(day, 4 * day), 20);
        }
        land.setHeat(9, 40);
        for (int day = 10; day < 40; day++) {
            Check.equal("fans of day " + day, land.pass(1), day % 10 == 9 ? 40 : 4 * (day % 10));
        }
    }

    @Sentence(in = "Terms", says = "There are coins (0, at first), and joy and stings in all (0, at first).")
    private static void nothingAtFirst() {
        BlossomTours land = Lands.valleys(1);
        Lands.tourThrough(land, 60, 0);
        Check.equal("coins", land.count(6), 0);
        Check.equal("joy in all", land.count(7), 0);
        Check.equal("stings in all", land.count(8), 0);
        land.pass(1);
        Check.equal("coins a day later", land.count(6), 56 + 30);
        Check.equal("joy in all a day later", land.count(7), 94);
        Check.equal("stings in all a day later", land.count(8), 12);
    }

    @Sentence(in = "Terms", says = "each tour that can go brings its joy * tourists / 100 coins,"
            + " and as many more as fans are sold: tourists * heat / 40;")
    private static void coinsAreCutForEachTour() {
        BlossomTours land = Lands.valleys(2);
        Lands.tourThrough(land, 1, 0);
        Check.equal("1 and 20 / 40", land.pass(1), 1);
        Check.equal("no joy and 20 / 40", land.pass(1), 0);

        BlossomTours cut = new BlossomTours();
        cut.valley(0, 3, 0);
        cut.setHeat(0, 39);
        cut.setHeat(1, 40);
        cut.setHeat(2, 0);
        Lands.tourThrough(cut, 1, 0);
        Lands.tourThrough(cut, 1, 0);
        Check.equal("50 / 100 twice and 39 / 40 twice", cut.pass(1), 0);
        Check.equal("100 / 100 twice and 40 / 40 twice", cut.pass(1), 4);
        Check.equal("50 / 100 twice and no heat", cut.pass(1), 0);

        BlossomTours most = Lands.row(5);
        most.setHeat(0, 40);
        Lands.tourThrough(most, 60, 0, 1, 2, 3, 4);
        Check.equal("5 * 94 * 60 / 100 and 60", most.pass(1), 282 + 60);
    }

    @Sentence(in = "Terms", says = "its joy and its stings come to those in all; then the day is 1 greater.")
    private static void daysOneByOne() {
        BlossomTours land = new BlossomTours();
        land.valley(9, 1, 50);
        Lands.tourThrough(land, 40, 0);
        land.setHeat(9, 40);
        land.pass(9);
        Check.equal("9 days are gone", land.count(0), 9);
        Check.equal("no joy till then", land.count(7), 0);
        Check.equal("no stings till then", land.count(8), 0);
        Check.equal("joy and heat of day 9, not of day 10", land.pass(1), 38 + 40);
        Check.equal("the day is 1 greater", land.count(0), 10);
        Check.equal("joy in all", land.count(7), 96);
        Check.equal("stings in all", land.count(8), 40);
        Check.equal("heat of day 10", land.pass(1), 20);
        Check.equal("joy in all stays", land.count(7), 96);
    }

    // ---- exceptions

    @Sentence(in = "Terms", says = "A method that throws an exception changes nothing.")
    private static void refusedCallsChangeNothing() {
        BlossomTours land = Lands.full();
        land.pass(7);
        int[] before = answers(land);
        Check.refused(land, "valley(0, 1, 0)", STATE, () -> land.valley(0, 1, 0));
        Check.refused(land, "valley(0, 31, 0)", ARGUMENT, () -> land.valley(0, 31, 0));
        Check.refused(land, "road(0, 1, 1)", STATE, () -> land.road(0, 1, 1));
        Check.refused(land, "road(0, 0, 1)", ARGUMENT, () -> land.road(0, 0, 1));
        Check.refused(land, "road(0, 8, 1)", INDEX, () -> land.road(0, 8, 1));
        Check.refused(land, "setHeat(10, 40)", INDEX, () -> land.setHeat(10, 40));
        Check.refused(land, "setHeat(0, 41)", ARGUMENT, () -> land.setHeat(0, 41));
        Check.refused(land, "bloom(8, 0)", INDEX, () -> land.bloom(8, 0));
        Check.refused(land, "bloom(0, -1)", ARGUMENT, () -> land.bloom(0, -1));
        Check.refused(land, "way(0, 8)", INDEX, () -> land.way(0, 8));
        Check.refused(land, "tour(1)", STATE, () -> land.tour(1));
        Check.refused(land, "tour(61)", ARGUMENT, () -> land.tour(61));
        Check.refused(land, "add(0, 7)", STATE, () -> land.add(0, 7));
        Check.refused(land, "add(1, 1)", STATE, () -> land.add(1, 1));
        Check.refused(land, "add(1, 8)", INDEX, () -> land.add(1, 8));
        Check.refused(land, "cut(6)", INDEX, () -> land.cut(6));
        Check.refused(land, "told(0, 6)", INDEX, () -> land.told(0, 6));
        Check.refused(land, "about(0, 6)", INDEX, () -> land.about(0, 6));
        Check.refused(land, "count(9)", INDEX, () -> land.count(9));
        Check.refused(land, "pass(61)", ARGUMENT, () -> land.pass(61));
        Check.refused(land, "pass(0)", ARGUMENT, () -> land.pass(0));
        Check.refused(land, "joy(0, -1)", ARGUMENT, () -> land.joy(0, -1));
        Check.refused(land, "joy(6, 0)", INDEX, () -> land.joy(6, 0));
        Check.refused(land, "best(6)", INDEX, () -> land.best(6));
        Check.refused(land, "advise(6)", INDEX, () -> land.advise(6));
        Check.refused(land, "foresee(1, 4)", INDEX, () -> land.foresee(1, 4));
        Check.refused(land, "foresee(61, 5)", ARGUMENT, () -> land.foresee(61, 5));
        land.cut(1);
        Check.refused(land, "cut(1) of an empty list", STATE, () -> land.cut(1));
        Check.equal("the valley is added again", land.add(1, 1), 1);
        int[] behind = answers(land);
        for (int i = 0; i < before.length; i++) {
            Check.equal("answer " + i + " behind all of them", behind[i], before[i]);
        }
    }

    /** What the digest does not tell. */
    private static int[] answers(BlossomTours land) {
        int[] answers = new int[8 + 6 + 6 + 4];
        for (int i = 0; i < 8; i++) {
            answers[i] = land.bloom(i, 0);
        }
        for (int t = 0; t < 6; t++) {
            answers[8 + t] = land.joy(t, 0);
            answers[14 + t] = land.advise(t);
        }
        for (int what = 5; what <= 8; what++) {
            answers[15 + what] = land.foresee(10, what);
        }
        return answers;
    }

    @Sentence(in = "Terms", says = "If several exceptions apply, the one that is named first is thrown.")
    private static void theFirstNamedIsThrown() {
        BlossomTours land = Lands.full();
        Check.refused(land, "valley: from, full", ARGUMENT, () -> land.valley(91, 1, 0));
        Check.refused(land, "valley: length, full", ARGUMENT, () -> land.valley(0, 0, 0));
        Check.refused(land, "valley: bees, full", ARGUMENT, () -> land.valley(0, 1, 51));
        Check.refused(land, "road: no valley, the same, full", INDEX, () -> land.road(8, 8, 1));
        Check.refused(land, "road: no valley, minutes, full", INDEX, () -> land.road(-1, 0, 0));
        Check.refused(land, "road: no other valley, minutes, full", INDEX, () -> land.road(0, 8, 241));
        Check.refused(land, "road: no valley, full", INDEX, () -> land.road(0, 8, 1));
        Check.refused(land, "road: the same, full", ARGUMENT, () -> land.road(0, 0, 1));
        Check.refused(land, "road: minutes, full", ARGUMENT, () -> land.road(0, 1, 241));
        Check.refused(land, "setHeat: day, heat", INDEX, () -> land.setHeat(10, 41));
        Check.refused(land, "setHeat: day, heat, both less than 0", INDEX, () -> land.setHeat(-1, -1));
        Check.refused(land, "bloom: no valley, day", INDEX, () -> land.bloom(8, -1));
        Check.refused(land, "tour: 0, full", ARGUMENT, () -> land.tour(0));
        Check.refused(land, "tour: 61, full", ARGUMENT, () -> land.tour(61));
        Check.refused(land, "add: no valley, has 5", INDEX, () -> land.add(0, 8));
        Check.refused(land, "joy: no tour, day", INDEX, () -> land.joy(6, -1));
        Check.refused(land, "foresee: days, what", ARGUMENT, () -> land.foresee(0, 4));
        Check.refused(land, "foresee: days, what, both too great", ARGUMENT, () -> land.foresee(61, 9));
        BlossomTours sparse = Lands.valleys(1);
        Check.refused(sparse, "road: no valley, minutes", INDEX, () -> sparse.road(0, 1, LOW));
        Check.refused(sparse, "road: no valley, the same", INDEX, () -> sparse.road(1, 1, 1));
    }
}
