/** Lands to try calls on. */
final class Lands {
    private Lands() {
    }

    /** Valleys without roads, each in full bloom on its one day 0, with 10 bees. */
    static BlossomTours valleys(int number) {
        BlossomTours land = new BlossomTours();
        for (int v = 0; v < number; v++) {
            land.valley(0, 1, 10);
        }
        return land;
    }

    /** The same in a row, with roads of 10 minutes between neighbours. */
    static BlossomTours row(int number) {
        BlossomTours land = valleys(number);
        for (int v = 1; v < number; v++) {
            land.road(v - 1, v, 10);
        }
        return land;
    }

    static int tourThrough(BlossomTours land, int tourists, int... valleys) {
        int tour = land.tour(tourists);
        for (int v : valleys) {
            land.add(tour, v);
        }
        return tour;
    }

    /** Eight valleys, 20 roads and six tours, of which the first has five valleys. */
    static BlossomTours full() {
        BlossomTours land = row(8);
        for (int road = 8; road <= 20; road++) {
            land.road(0, 7, 100 + road);
        }
        tourThrough(land, 7, 0, 1, 2, 3, 4);
        for (int t = 1; t < 6; t++) {
            tourThrough(land, 10 * t, t);
        }
        return land;
    }
}
