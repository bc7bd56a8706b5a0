/** For each promise of the document: ordinary inputs, the edges that it names, and wrong inputs. */
public final class PromisesTest {
    private static final Class<IndexOutOfBoundsException> INDEX = IndexOutOfBoundsException.class;
    private static final Class<IllegalArgumentException> ARGUMENT = IllegalArgumentException.class;
    private static final Class<IllegalStateException> STATE = IllegalStateException.class;
    private static final int LOW = Integer.MIN_VALUE;
    private static final int HIGH = Integer.MAX_VALUE;

    public static void main(String[] args) {
        promise1NewObject();
        promise2Valley();
        promise3Road();
        promise4SetHeat();
        promise5Bloom();
        promise6Way();
        promise7Tour();
        promise8Add();
        promise9Cut();
        promise10Told();
        promise11About();
        promise12Count();
        promise13Pass();
        promise14Joy();
        promise15Best();
        promise16Advise();
        promise17Foresee();
        promise18Mean();
        promise19Digest();
        Check.end();
    }

    /** Eight valleys and 20 roads, all of them between the valleys 0 and 1. */
    private static BlossomTours fullOfRoads() {
        BlossomTours land = new BlossomTours();
        for (int v = 0; v < 8; v++) {
            land.valley(v, 2, v);
        }
        for (int r = 1; r <= 20; r++) {
            Check.equal("road " + r, land.road(0, 1, 100 - r), r);
        }
        return land;
    }

    private static void promise1NewObject() {
        BlossomTours land = new BlossomTours();
        for (int what = 0; what <= 8; what++) {
            Check.equal("1: count(" + what + ") of a new object", land.count(what), 0);
        }
        for (int day = 0; day < 10; day++) {
            Check.equal("1: heat at first", land.setHeat(day, 20), 20);
        }
        Check.equal("1: mean of a new object", land.mean(), 0.0);
        land.valley(0, 1, 0);
        Check.equal("1: another object has nothing of it", new BlossomTours().count(1), 0);
    }

    private static void promise2Valley() {
        BlossomTours land = new BlossomTours();
        Check.refused(land, "2: valley(-1, 1, 0)", ARGUMENT, () -> land.valley(-1, 1, 0));
        Check.refused(land, "2: valley(91, 1, 0)", ARGUMENT, () -> land.valley(91, 1, 0));
        Check.refused(land, "2: valley(0, 0, 0)", ARGUMENT, () -> land.valley(0, 0, 0));
        Check.refused(land, "2: valley(0, 31, 0)", ARGUMENT, () -> land.valley(0, 31, 0));
        Check.refused(land, "2: valley(0, 1, -1)", ARGUMENT, () -> land.valley(0, 1, -1));
        Check.refused(land, "2: valley(0, 1, 51)", ARGUMENT, () -> land.valley(0, 1, 51));
        Check.refused(land, "2: valley(LOW, HIGH, LOW)", ARGUMENT, () -> land.valley(LOW, HIGH, LOW));
        Check.equal("2: valley(0, 1, 0)", land.valley(0, 1, 0), 0);
        Check.equal("2: valley(90, 30, 50)", land.valley(90, 30, 50), 1);
        Check.equal("2: its first day", land.about(1, 0), 90);
        Check.equal("2: its length", land.about(1, 1), 30);
        Check.equal("2: its bees", land.about(1, 2), 50);
        for (int v = 2; v < 8; v++) {
            Check.equal("2: valley " + v, land.valley(v, 5, v), v);
        }
        Check.refused(land, "2: a ninth valley", STATE, () -> land.valley(0, 1, 0));
        Check.refused(land, "2: a ninth valley from 91", ARGUMENT, () -> land.valley(91, 1, 0));
        Check.refused(land, "2: a ninth valley of no length", ARGUMENT, () -> land.valley(0, 0, 0));
        Check.refused(land, "2: a ninth valley of 51 bees", ARGUMENT, () -> land.valley(0, 1, 51));
    }

    private static void promise3Road() {
        BlossomTours none = new BlossomTours();
        Check.refused(none, "3: road without valleys", INDEX, () -> none.road(0, 0, 0));
        BlossomTours land = new BlossomTours();
        land.valley(0, 1, 0);
        land.valley(0, 1, 0);
        Check.refused(land, "3: road(-1, 0, 5)", INDEX, () -> land.road(-1, 0, 5));
        Check.refused(land, "3: road(2, 0, 5)", INDEX, () -> land.road(2, 0, 5));
        Check.refused(land, "3: road(0, -1, 5)", INDEX, () -> land.road(0, -1, 5));
        Check.refused(land, "3: road(0, 2, 5)", INDEX, () -> land.road(0, 2, 5));
        Check.refused(land, "3: road(2, 2, 0)", INDEX, () -> land.road(2, 2, 0));
        Check.refused(land, "3: road(HIGH, LOW, 5)", INDEX, () -> land.road(HIGH, LOW, 5));
        Check.refused(land, "3: road(1, 1, 5)", ARGUMENT, () -> land.road(1, 1, 5));
        Check.refused(land, "3: road(0, 1, 0)", ARGUMENT, () -> land.road(0, 1, 0));
        Check.refused(land, "3: road(0, 1, 241)", ARGUMENT, () -> land.road(0, 1, 241));
        Check.equal("3: road of 240", land.road(0, 1, 240), 1);
        Check.equal("3: road of 1", land.road(1, 0, 1), 2);
        Check.equal("3: the count of roads", land.count(2), 2);

        BlossomTours full = fullOfRoads();
        Check.refused(full, "3: road 21", STATE, () -> full.road(0, 1, 5));
        Check.refused(full, "3: road 21 to no valley", INDEX, () -> full.road(0, 8, 5));
        Check.refused(full, "3: road 21 to itself", ARGUMENT, () -> full.road(1, 1, 5));
        Check.refused(full, "3: road 21 of 0 minutes", ARGUMENT, () -> full.road(0, 1, 0));
        Check.equal("3: the way is the last road told", full.way(0, 1), 80);
    }

    private static void promise4SetHeat() {
        BlossomTours land = new BlossomTours();
        Check.refused(land, "4: setHeat(-1, 0)", INDEX, () -> land.setHeat(-1, 0));
        Check.refused(land, "4: setHeat(10, 0)", INDEX, () -> land.setHeat(10, 0));
        Check.refused(land, "4: setHeat(10, 41)", INDEX, () -> land.setHeat(10, 41));
        Check.refused(land, "4: setHeat(LOW, LOW)", INDEX, () -> land.setHeat(LOW, LOW));
        Check.refused(land, "4: setHeat(0, -1)", ARGUMENT, () -> land.setHeat(0, -1));
        Check.refused(land, "4: setHeat(9, 41)", ARGUMENT, () -> land.setHeat(9, 41));
        Check.equal("4: setHeat(0, 40)", land.setHeat(0, 40), 20);
        Check.equal("4: setHeat(0, 0)", land.setHeat(0, 0), 40);
        Check.equal("4: setHeat(0, 7)", land.setHeat(0, 7), 0);
        Check.equal("4: setHeat(9, 1)", land.setHeat(9, 1), 20);
        Check.equal("4: setHeat(9, 2)", land.setHeat(9, 2), 1);
        Check.equal("4: day 1 is as at first", land.setHeat(1, 3), 20);
    }

    private static void promise5Bloom() {
        BlossomTours land = new BlossomTours();
        land.valley(3, 5, 0);
        land.valley(0, 4, 0);
        land.valley(90, 30, 0);
        land.valley(7, 1, 0);
        int[] odd = {0, 0, 0, 33, 66, 100, 66, 33, 0, 0};
        for (int day = 0; day < odd.length; day++) {
            Check.equal("5: bloom(0, " + day + ")", land.bloom(0, day), odd[day]);
        }
        int[] even = {50, 100, 100, 50, 0};
        for (int day = 0; day < even.length; day++) {
            Check.equal("5: bloom(1, " + day + ")", land.bloom(1, day), even[day]);
        }
        Check.equal("5: bloom(2, 89)", land.bloom(2, 89), 0);
        Check.equal("5: bloom(2, 90)", land.bloom(2, 90), 6);
        Check.equal("5: bloom(2, 104)", land.bloom(2, 104), 100);
        Check.equal("5: bloom(2, 105)", land.bloom(2, 105), 100);
        Check.equal("5: bloom(2, 119)", land.bloom(2, 119), 6);
        Check.equal("5: bloom(2, 120)", land.bloom(2, 120), 0);
        Check.equal("5: bloom(2, HIGH)", land.bloom(2, HIGH), 0);
        Check.equal("5: bloom(3, 6)", land.bloom(3, 6), 0);
        Check.equal("5: bloom(3, 7)", land.bloom(3, 7), 100);
        Check.equal("5: bloom(3, 8)", land.bloom(3, 8), 0);
        Check.refused(land, "5: bloom(-1, 0)", INDEX, () -> land.bloom(-1, 0));
        Check.refused(land, "5: bloom(4, 0)", INDEX, () -> land.bloom(4, 0));
        Check.refused(land, "5: bloom(4, -1)", INDEX, () -> land.bloom(4, -1));
        Check.refused(land, "5: bloom(0, -1)", ARGUMENT, () -> land.bloom(0, -1));
        Check.refused(land, "5: bloom(0, LOW)", ARGUMENT, () -> land.bloom(0, LOW));
        land.pass(4);
        Check.equal("5: bloom hangs on the day asked for alone", land.bloom(0, 3), 33);
    }

    private static void promise6Way() {
        BlossomTours land = Lands.row(4);
        land.valley(0, 1, 0);
        Check.equal("6: way(0, 3) by three roads", land.way(0, 3), 30);
        Check.equal("6: way(3, 0) back", land.way(3, 0), 30);
        Check.equal("6: way(2, 2)", land.way(2, 2), 0);
        Check.equal("6: way(0, 4) without a road", land.way(0, 4), -1);
        Check.equal("6: way(4, 0) without a road", land.way(4, 0), -1);
        Check.equal("6: way(4, 4)", land.way(4, 4), 0);
        land.road(3, 0, 31);
        Check.equal("6: a longer road is not taken", land.way(0, 3), 30);
        land.road(3, 0, 5);
        Check.equal("6: a shorter road is taken", land.way(0, 3), 5);
        Check.equal("6: and as part of a way", land.way(0, 2), 15);
        land.road(3, 0, 6);
        Check.equal("6: the shortest of several", land.way(0, 3), 5);
        land.road(1, 4, 240);
        Check.equal("6: a new valley at the end of a way", land.way(3, 4), 255);
        Check.refused(land, "6: way(-1, 0)", INDEX, () -> land.way(-1, 0));
        Check.refused(land, "6: way(0, -1)", INDEX, () -> land.way(0, -1));
        Check.refused(land, "6: way(5, 0)", INDEX, () -> land.way(5, 0));
        Check.refused(land, "6: way(0, 5)", INDEX, () -> land.way(0, 5));
        Check.refused(land, "6: way(5, 5)", INDEX, () -> land.way(5, 5));

        BlossomTours chain = new BlossomTours();
        for (int v = 0; v < 8; v++) {
            chain.valley(0, 1, 0);
        }
        for (int v = 7; v > 0; v--) {
            chain.road(v, v - 1, 240);
        }
        Check.equal("6: the longest way there can be", chain.way(0, 7), 1680);
    }

    private static void promise7Tour() {
        BlossomTours land = new BlossomTours();
        Check.refused(land, "7: tour(0)", ARGUMENT, () -> land.tour(0));
        Check.refused(land, "7: tour(61)", ARGUMENT, () -> land.tour(61));
        Check.refused(land, "7: tour(LOW)", ARGUMENT, () -> land.tour(LOW));
        Check.equal("7: tour(1)", land.tour(1), 0);
        Check.equal("7: tour(60)", land.tour(60), 1);
        Check.equal("7: its tourists", land.told(1, 0), 60);
        for (int t = 2; t < 6; t++) {
            Check.equal("7: tour " + t, land.tour(t), t);
        }
        Check.refused(land, "7: a seventh tour", STATE, () -> land.tour(1));
        Check.refused(land, "7: a seventh tour of 0", ARGUMENT, () -> land.tour(0));
        Check.refused(land, "7: a seventh tour of 61", ARGUMENT, () -> land.tour(61));
    }

    private static void promise8Add() {
        BlossomTours land = Lands.row(7);
        Check.refused(land, "8: add without tours", INDEX, () -> land.add(0, 0));
        land.tour(10);
        Check.refused(land, "8: add(-1, 0)", INDEX, () -> land.add(-1, 0));
        Check.refused(land, "8: add(1, 0)", INDEX, () -> land.add(1, 0));
        Check.refused(land, "8: add(0, -1)", INDEX, () -> land.add(0, -1));
        Check.refused(land, "8: add(0, 7)", INDEX, () -> land.add(0, 7));
        for (int n = 1; n <= 5; n++) {
            int valley = 6 - n;
            Check.equal("8: add(0, " + valley + ")", land.add(0, valley), n);
            if (n < 5) {
                Check.refused(land, "8: add it twice", STATE, () -> land.add(0, valley));
            }
        }
        Check.refused(land, "8: a sixth valley", STATE, () -> land.add(0, 6));
        Check.refused(land, "8: one of the five", STATE, () -> land.add(0, 3));
        Check.refused(land, "8: a sixth that is none", INDEX, () -> land.add(0, 7));
        Check.equal("8: at the end of the list", land.cut(0), 1);
        land.tour(10);
        Check.equal("8: the same valley in another list", land.add(1, 3), 1);
    }

    private static void promise9Cut() {
        BlossomTours land = Lands.row(3);
        Check.refused(land, "9: cut without tours", INDEX, () -> land.cut(0));
        Lands.tourThrough(land, 10, 2, 0, 1);
        land.tour(5);
        Check.refused(land, "9: cut(-1)", INDEX, () -> land.cut(-1));
        Check.refused(land, "9: cut(2)", INDEX, () -> land.cut(2));
        Check.refused(land, "9: cut of an empty list", STATE, () -> land.cut(1));
        Check.equal("9: cut the third", land.cut(0), 1);
        Check.equal("9: then there are two", land.told(0, 1), 2);
        Check.equal("9: it may be added again", land.add(0, 1), 3);
        land.cut(0);
        Check.equal("9: cut the second", land.cut(0), 0);
        Check.equal("9: cut the first", land.cut(0), 2);
        Check.refused(land, "9: cut when there are none left", STATE, () -> land.cut(0));
        Check.equal("9: the crowd is gone", land.about(2, 4), 0);
    }

    private static void checkTold(String what, BlossomTours land, int tour, int... due) {
        for (int i = 0; i < due.length; i++) {
            Check.equal(what + ", told(" + tour + ", " + i + ")", land.told(tour, i), due[i]);
        }
    }

    private static void promise10Told() {
        BlossomTours land = Lands.row(3);
        land.valley(0, 3, 50);
        int tour = land.tour(60);
        checkTold("10: empty list", land, tour, 60, 0, 0, 0, 0, 0);
        land.add(tour, 3);
        checkTold("10: one valley", land, tour, 60, 1, 50, 1, 44, 30);
        land.add(tour, 0);
        checkTold("10: no way", land, tour, 60, 2, -1, 0, 0, 0);
        land.add(tour, 2);
        checkTold("10: no way from the first", land, tour, 60, 3, -1, 0, 0, 0);
        land.road(0, 3, 240);
        checkTold("10: 50 * 3 + 240 + 20", land, tour, 60, 3, 410, 1, 44 + 94 + 94, 30 + 12 + 12);
        land.add(tour, 1);
        checkTold("10: 470 minutes", land, tour, 60, 4, 470, 1, 44 + 94 * 3, 30 + 12 * 3);
        Check.refused(land, "10: told(-1, 0)", INDEX, () -> land.told(-1, 0));
        Check.refused(land, "10: told(1, 0)", INDEX, () -> land.told(1, 0));
        Check.refused(land, "10: told(0, -1)", INDEX, () -> land.told(0, -1));
        Check.refused(land, "10: told(0, 6)", INDEX, () -> land.told(0, 6));

        BlossomTours edge = new BlossomTours();
        edge.valley(0, 1, 10);
        edge.valley(0, 1, 9);
        edge.valley(0, 1, 0);
        edge.road(0, 1, 240);
        edge.road(1, 2, 90);
        int longTour = Lands.tourThrough(edge, 55, 0, 1, 2);
        checkTold("10: 480 minutes", edge, longTour, 55, 3, 480, 1, 95 * 3, 11 + 9);
        edge.cut(longTour);
        edge.valley(0, 1, 0);
        edge.road(1, 3, 91);
        edge.add(longTour, 3);
        checkTold("10: 481 minutes", edge, longTour, 55, 3, 481, 0, 0, 0);

        BlossomTours crowded = Lands.row(1);
        for (int t = 0; t < 5; t++) {
            Lands.tourThrough(crowded, 60, 0);
        }
        checkTold("10: a crowd of 300", crowded, 0, 60, 1, 50, 1, 70, 12);
        Lands.tourThrough(crowded, 59, 0);
        checkTold("10: a crowd of 359", crowded, 5, 59, 1, 50, 1, 65, 11);
        crowded.pass(1);
        checkTold("10: behind the bloom", crowded, 0, 60, 1, 50, 1, 0, 0);
    }

    private static void promise11About() {
        BlossomTours land = Lands.row(3);
        land.valley(4, 9, 33);
        int first = Lands.tourThrough(land, 30, 0, 1);
        Lands.tourThrough(land, 7, 1);
        Lands.tourThrough(land, 50, 1, 3);
        int[] due = {4, 9, 33, 0, 0, 0};
        for (int what = 0; what < 6; what++) {
            Check.equal("11: about(3, " + what + ")", land.about(3, what), due[what]);
        }
        Check.equal("11: crowd of two tours, without the one that cannot go", land.about(1, 4), 37);
        Check.equal("11: these tours", land.about(1, 5), 2);
        Check.equal("11: bloom today", land.about(1, 3), 100);
        land.road(3, 2, 1);
        Check.equal("11: the third can go now", land.about(1, 4), 87);
        Check.equal("11: to the last one too", land.about(3, 4), 50);
        Check.equal("11: three tours", land.about(1, 5), 3);
        land.cut(first);
        Check.equal("11: the first goes there no more", land.about(1, 4), 57);
        Check.equal("11: two tours", land.about(1, 5), 2);
        land.pass(6);
        Check.equal("11: bloom behind 6 days", land.about(3, 3), 60);
        Check.equal("11: the other is over", land.about(1, 3), 0);
        Check.refused(land, "11: about(-1, 0)", INDEX, () -> land.about(-1, 0));
        Check.refused(land, "11: about(4, 0)", INDEX, () -> land.about(4, 0));
        Check.refused(land, "11: about(0, -1)", INDEX, () -> land.about(0, -1));
        Check.refused(land, "11: about(0, 6)", INDEX, () -> land.about(0, 6));
    }

    private static void promise12Count() {
        BlossomTours land = Lands.row(3);
        land.valley(2, 4, 40);
        Lands.tourThrough(land, 50, 0, 1);
        Lands.tourThrough(land, 60, 3);
        Lands.tourThrough(land, 20, 3, 0);
        land.tour(3);
        int[] atFirst = {0, 4, 2, 4, 2, 3, 0, 0, 0};
        for (int what = 0; what < 9; what++) {
            Check.equal("12: count(" + what + ")", land.count(what), atFirst[what]);
        }
        land.pass(3);
        int[] then = {3, 4, 2, 4, 2, 1, (95 + 75 + 90) + 26, 190 + 44, 20 + 24};
        for (int what = 0; what < 9; what++) {
            Check.equal("12: count(" + what + ") behind 3 days", land.count(what), then[what]);
        }
        Check.refused(land, "12: count(-1)", INDEX, () -> land.count(-1));
        Check.refused(land, "12: count(9)", INDEX, () -> land.count(9));
        Check.refused(land, "12: count(HIGH)", INDEX, () -> land.count(HIGH));
    }

    private static void promise13Pass() {
        BlossomTours land = new BlossomTours();
        land.valley(0, 3, 50);
        land.valley(1, 1, 3);
        land.road(0, 1, 30);
        Lands.tourThrough(land, 33, 0, 1);
        Lands.tourThrough(land, 9, 1);
        land.tour(60);
        land.setHeat(1, 39);
        land.setHeat(2, 0);
        Check.equal("13: day 0, joy 47", land.pass(1), 15 + 16 + 0 + 4);
        Check.equal("13: day 1, joys 193 and 96", land.pass(1), 63 + 32 + 8 + 8);
        Check.equal("13: day 2, no heat", land.pass(1), 15);
        Check.equal("13: joy in all", land.count(7), 47 + 193 + 96 + 47);
        Check.equal("13: stings in all", land.count(8), 16 + 33 + 1 + 16);
        Check.equal("13: fans alone", land.pass(7), 7 * (16 + 4));
        Check.equal("13: the table begins anew", land.pass(2), (16 + 4) + (32 + 8));
        Check.equal("13: the day", land.count(0), 12);
        Check.equal("13: coins in all", land.count(6), 35 + 111 + 15 + 140 + 60);
        Check.refused(land, "13: pass(0)", ARGUMENT, () -> land.pass(0));
        Check.refused(land, "13: pass(61)", ARGUMENT, () -> land.pass(61));
        Check.refused(land, "13: pass(-1)", ARGUMENT, () -> land.pass(-1));
        Check.refused(land, "13: pass(LOW)", ARGUMENT, () -> land.pass(LOW));
        Check.equal("13: pass(60)", land.pass(60), 6 * (8 * 20 + 40));
        Check.equal("13: the day behind 60 more", land.count(0), 72);
        Check.equal("13: without tours", new BlossomTours().pass(60), 0);
    }

    private static void promise14Joy() {
        BlossomTours land = new BlossomTours();
        land.valley(0, 30, 0);
        land.valley(5, 2, 0);
        land.road(0, 1, 1);
        int tour = Lands.tourThrough(land, 60, 0, 1);
        Lands.tourThrough(land, 55, 0);
        Check.equal("14: 6 less 11 is 0", land.joy(tour, 0), 0);
        Check.equal("14: 13 less 11", land.joy(tour, 1), 2);
        Check.equal("14: 40 less 11, 100 less 6", land.joy(tour, 5), 29 + 94);
        Check.equal("14: behind all", land.joy(tour, HIGH), 0);
        land.pass(60);
        Check.equal("14: a day gone by", land.joy(tour, 5), 29 + 94);
        land.cut(1);
        Check.equal("14: as lists are now", land.joy(tour, 5), 34 + 94);
        Check.equal("14: a tour without a valley", land.joy(1, 5), 0);
        Check.refused(land, "14: joy(-1, 0)", INDEX, () -> land.joy(-1, 0));
        Check.refused(land, "14: joy(2, 0)", INDEX, () -> land.joy(2, 0));
        Check.refused(land, "14: joy(2, -1)", INDEX, () -> land.joy(2, -1));
        Check.refused(land, "14: joy(0, -1)", ARGUMENT, () -> land.joy(0, -1));
        Check.refused(land, "14: joy(0, LOW)", ARGUMENT, () -> land.joy(0, LOW));
    }

    private static void promise15Best() {
        BlossomTours land = new BlossomTours();
        land.valley(10, 4, 0);
        land.valley(90, 30, 0);
        land.valley(0, 1, 0);
        int early = Lands.tourThrough(land, 20, 0);
        int late = Lands.tourThrough(land, 20, 1);
        int today = Lands.tourThrough(land, 20, 2);
        int stuck = Lands.tourThrough(land, 20, 0, 1);
        int empty = land.tour(20);
        Check.equal("15: of two days the earlier one", land.best(early), 11);
        Check.equal("15: far ahead", land.best(late), 104);
        Check.equal("15: today", land.best(today), 0);
        Check.equal("15: it cannot go", land.best(stuck), -1);
        Check.equal("15: an empty list", land.best(empty), -1);
        land.pass(12);
        Check.equal("15: today is the other of the two", land.best(early), 12);
        Check.equal("15: it is over", land.best(today), -1);
        land.pass(2);
        Check.equal("15: behind its last day", land.best(early), -1);
        Check.refused(land, "15: best(-1)", INDEX, () -> land.best(-1));
        Check.refused(land, "15: best(5)", INDEX, () -> land.best(5));

        BlossomTours rising = new BlossomTours();
        rising.valley(90, 30, 0);
        int tour = Lands.tourThrough(rising, 1, 0);
        rising.pass(60);
        rising.pass(45);
        Check.equal("15: full bloom today", rising.best(tour), 105);
        rising.pass(1);
        Check.equal("15: falling from today on", rising.best(tour), 106);

        BlossomTours crowded = new BlossomTours();
        crowded.valley(90, 30, 0);
        for (int t = 0; t < 6; t++) {
            Lands.tourThrough(crowded, 60, 0);
        }
        Check.equal("15: in spite of the crowd", crowded.best(0), 104);

        BlossomTours little = new BlossomTours();
        little.valley(0, 30, 0);
        int crowd = Lands.tourThrough(little, 50, 0);
        little.pass(29);
        Check.equal("15: for a joy of 1", little.best(crowd), 29);

        BlossomTours end = new BlossomTours();
        end.valley(90, 30, 0);
        int last = Lands.tourThrough(end, 1, 0);
        end.pass(60);
        end.pass(59);
        Check.equal("15: the last day of all", end.best(last), 119);
        end.pass(1);
        Check.equal("15: one day later", end.best(last), -1);
    }

    private static void promise16Advise() {
        BlossomTours land = new BlossomTours();
        land.valley(0, 3, 0);
        land.valley(0, 1, 0);
        land.valley(0, 1, 0);
        land.valley(9, 9, 0);
        land.valley(0, 1, 0);
        land.road(0, 1, 200);
        land.road(0, 2, 200);
        land.road(0, 3, 1);
        int tour = land.tour(20);
        Check.equal("16: for an empty list the first of the greatest", land.advise(tour), 1);
        land.add(tour, 0);
        Check.equal("16: of several the smallest number", land.advise(tour), 1);
        int busy = Lands.tourThrough(land, 10, 1);
        Check.equal("16: less crowded", land.advise(tour), 2);
        land.add(tour, 2);
        Check.equal("16: it would take too long", land.advise(tour), -1);
        land.cut(tour);
        land.add(tour, 3);
        Check.equal("16: another way round", land.advise(tour), 2);
        long before = land.digest();
        land.advise(tour);
        land.advise(busy);
        Check.equal("16: nothing is changed", land.digest(), before);
        land.pass(1);
        Check.equal("16: joy today, behind the bloom of the others", land.advise(tour), -1);
        Check.equal("16: from elsewhere", land.advise(busy), 0);
        land.pass(60);
        Check.equal("16: no bloom anywhere", land.advise(tour), -1);
        Check.refused(land, "16: advise(-1)", INDEX, () -> land.advise(-1));
        Check.refused(land, "16: advise(2)", INDEX, () -> land.advise(2));

        BlossomTours full = Lands.row(7);
        int five = Lands.tourThrough(full, 1, 0, 1, 2, 3, 4);
        Check.equal("16: it has 5", full.advise(five), -1);
        full.cut(five);
        Check.equal("16: it has 4", full.advise(five), 4);
        Check.equal("16: without valleys", adviseWithoutValleys(), -1);
        adviseInACrowd();
    }

    private static int adviseWithoutValleys() {
        BlossomTours land = new BlossomTours();
        return land.advise(land.tour(1));
    }

    /** Its own tourists come to the crowd of the valley that it is asked of. */
    private static void adviseInACrowd() {
        BlossomTours land = new BlossomTours();
        land.valley(0, 30, 0);
        land.valley(0, 1, 0);
        land.road(0, 1, 1);
        int tour = Lands.tourThrough(land, 60, 1);
        Check.equal("16: bloom 6 less its own 6", land.advise(tour), -1);
        int small = Lands.tourThrough(land, 59, 1);
        Check.equal("16: bloom 6 less its own 5", land.advise(small), 0);
        land.add(small, 0);
        Check.equal("16: taken already by the other", land.advise(tour), -1);
    }

    private static void promise17Foresee() {
        BlossomTours land = new BlossomTours();
        land.valley(0, 3, 50);
        land.valley(1, 1, 3);
        land.valley(60, 1, 0);
        land.road(0, 1, 30);
        Lands.tourThrough(land, 33, 0, 1);
        Lands.tourThrough(land, 9, 1);
        land.setHeat(1, 39);
        long before = land.digest();
        Check.equal("17: blooming behind 1 day", land.foresee(1, 5), 2);
        Check.equal("17: blooming behind 2 days", land.foresee(2, 5), 1);
        Check.equal("17: blooming behind 3 days", land.foresee(3, 5), 0);
        Check.equal("17: blooming behind 60 days", land.foresee(60, 5), 1);
        Check.equal("17: coins behind 2 days", land.foresee(2, 6), 35 + 111);
        Check.equal("17: joy behind 2 days", land.foresee(2, 7), 47 + 193 + 96);
        Check.equal("17: stings behind 2 days", land.foresee(2, 8), 16 + 33 + 1);
        Check.equal("17: nothing is changed", land.digest(), before);
        land.pass(1);
        Check.equal("17: coins in all", land.foresee(1, 6), 35 + 111);
        Check.equal("17: joy in all", land.foresee(1, 7), 47 + 193 + 96);
        Check.equal("17: stings in all", land.foresee(1, 8), 16 + 33 + 1);
        int[] foreseen = {land.foresee(60, 5), land.foresee(60, 6), land.foresee(60, 7), land.foresee(60, 8)};
        land.pass(60);
        for (int what = 5; what <= 8; what++) {
            Check.equal("17: as it came, count(" + what + ")", land.count(what), foreseen[what - 5]);
        }
        Check.refused(land, "17: foresee(0, 5)", ARGUMENT, () -> land.foresee(0, 5));
        Check.refused(land, "17: foresee(61, 8)", ARGUMENT, () -> land.foresee(61, 8));
        Check.refused(land, "17: foresee(0, 9)", ARGUMENT, () -> land.foresee(0, 9));
        Check.refused(land, "17: foresee(LOW, LOW)", ARGUMENT, () -> land.foresee(LOW, LOW));
        Check.refused(land, "17: foresee(1, 4)", INDEX, () -> land.foresee(1, 4));
        Check.refused(land, "17: foresee(60, 9)", INDEX, () -> land.foresee(60, 9));
        Check.refused(land, "17: foresee(60, -1)", INDEX, () -> land.foresee(60, -1));
    }

    private static void promise18Mean() {
        BlossomTours land = new BlossomTours();
        Check.equal("18: without valleys", land.mean(), 0.0);
        land.valley(0, 3, 0);
        Check.equal("18: of one", land.mean(), 50.0);
        land.valley(0, 1, 0);
        Check.equal("18: of two", land.mean(), 75.0);
        land.valley(1, 1, 0);
        Check.equal("18: of three, one of which does not bloom", land.mean(), 50.0);
        land.valley(0, 5, 0);
        Check.equal("18: no whole number", land.mean(), 183.0 / 4.0);
        land.pass(1);
        Check.equal("18: a day later", land.mean(), 266.0 / 4.0);
        land.pass(60);
        Check.equal("18: behind the bloom", land.mean(), 0.0);
        Check.equal("18: of eight", Lands.row(8).mean(), 100.0);
    }

    private static void promise19Digest() {
        int[] bare = {0, 0, 0, 0, 0, 0, 0, 0, 0, 20, 20, 20, 20, 20, 20, 20, 20, 20, 20};
        Check.equal("19: of a new object", new BlossomTours().digest(), mixed(bare));
        BlossomTours land = new BlossomTours();
        land.valley(0, 1, 10);
        land.valley(2, 3, 4);
        land.valley(0, 4, 50);
        land.road(0, 1, 7);
        Lands.tourThrough(land, 60, 1, 0);
        Lands.tourThrough(land, 40, 2, 1);
        land.setHeat(9, 3);
        int[] numbers = {0, 3, 1, 2, 1, 2, 0, 0, 0,
            20, 20, 20, 20, 20, 20, 20, 20, 20, 3,
            0, 1, 10, 100, 60, 1, 0, 7, -1,
            2, 3, 4, 0, 60, 1, 7, 0, -1,
            0, 4, 50, 50, 0, 0, -1, -1, 0,
            60, 2, 107, 1, 94, 12, 1, 0,
            40, 2, -1, 0, 0, 0, 2, 1};
        Check.equal("19: number by number", land.digest(), mixed(numbers));
        Check.equal("19: it changes nothing", land.digest(), mixed(numbers));
    }

    private static long mixed(int[] numbers) {
        long d = 1213;
        for (int x : numbers) {
            d = d * 31 + x;
        }
        return d;
    }
}
