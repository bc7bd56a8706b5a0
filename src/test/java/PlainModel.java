import java.util.ArrayList;
import java.util.Arrays;
import java.util.List;

/**
 * The document once more, in the plainest form: nothing but what was told is
 * kept, and all else is reckoned anew at each call. Tests compare it to the class.
 */
final class PlainModel {
    static final int INDEX = 1;
    static final int ARGUMENT = 2;
    static final int STATE = 3;

    /** What a call answers here if it is to throw. */
    static final class Refusal extends RuntimeException {
        private static final long serialVersionUID = 1L;
        final int kind;

        Refusal(int kind) {
            super(null, null, false, false);
            this.kind = kind;
        }
    }

    private final List<int[]> valleys = new ArrayList<>();
    private final List<int[]> roads = new ArrayList<>();
    private final List<Integer> tourists = new ArrayList<>();
    private final List<List<Integer>> lists = new ArrayList<>();
    private final int[] heat = new int[10];
    private int day;
    private int coins;
    private int joyInAll;
    private int stingsInAll;

    PlainModel() {
        Arrays.fill(heat, 20);
    }

    int valleyCount() {
        return valleys.size();
    }

    int tourCount() {
        return lists.size();
    }

    private static void need(boolean holds, int kind) {
        if (!holds) {
            throw new Refusal(kind);
        }
    }

    private boolean isValley(int v) {
        return 0 <= v && v < valleys.size();
    }

    private boolean isTour(int t) {
        return 0 <= t && t < lists.size();
    }

    int valley(int from, int length, int bees) {
        need(0 <= from && from <= 90 && 1 <= length && length <= 30 && 0 <= bees && bees <= 50, ARGUMENT);
        need(valleys.size() < 8, STATE);
        valleys.add(new int[] {from, length, bees});
        return valleys.size() - 1;
    }

    int road(int a, int b, int minutes) {
        need(isValley(a) && isValley(b), INDEX);
        need(a != b && 1 <= minutes && minutes <= 240, ARGUMENT);
        need(roads.size() < 20, STATE);
        roads.add(new int[] {a, b, minutes});
        return roads.size();
    }

    int setHeat(int d, int degrees) {
        need(0 <= d && d <= 9, INDEX);
        need(0 <= degrees && degrees <= 40, ARGUMENT);
        int before = heat[d];
        heat[d] = degrees;
        return before;
    }

    int bloom(int v, int d) {
        need(isValley(v), INDEX);
        need(d >= 0, ARGUMENT);
        long first = valleys.get(v)[0];
        long length = valleys.get(v)[1];
        long last = first + length - 1;
        if (d < first || d > last) {
            return 0;
        }
        long n = Math.min(d - first + 1, last - d + 1);
        long m = (length + 1) / 2;
        return (int) (100 * n / m);
    }

    int way(int a, int b) {
        need(isValley(a) && isValley(b), INDEX);
        int[] far = new int[valleys.size()];
        Arrays.fill(far, -1);
        far[a] = 0;
        for (int round = 0; round < valleys.size(); round++) {
            for (int[] r : roads) {
                relax(far, r[0], r[1], r[2]);
                relax(far, r[1], r[0], r[2]);
            }
        }
        return far[b];
    }

    private static void relax(int[] far, int from, int to, int minutes) {
        if (far[from] >= 0 && (far[to] < 0 || far[to] > far[from] + minutes)) {
            far[to] = far[from] + minutes;
        }
    }

    int tour(int number) {
        need(1 <= number && number <= 60, ARGUMENT);
        need(lists.size() < 6, STATE);
        tourists.add(number);
        lists.add(new ArrayList<>());
        return lists.size() - 1;
    }

    int add(int t, int v) {
        need(isTour(t) && isValley(v), INDEX);
        need(lists.get(t).size() < 5 && !lists.get(t).contains(v), STATE);
        lists.get(t).add(v);
        return lists.get(t).size();
    }

    int cut(int t) {
        need(isTour(t), INDEX);
        need(!lists.get(t).isEmpty(), STATE);
        return lists.get(t).remove(lists.get(t).size() - 1);
    }

    private int minutes(int t) {
        List<Integer> list = lists.get(t);
        int sum = 0;
        for (int i = 0; i < list.size(); i++) {
            int way = i == 0 ? 0 : way(list.get(i - 1), list.get(i));
            if (way < 0) {
                return -1;
            }
            sum += 50 + way;
        }
        return sum;
    }

    private boolean canGo(int t) {
        int minutes = minutes(t);
        return !lists.get(t).isEmpty() && minutes >= 0 && minutes <= 480;
    }

    private int crowd(int v) {
        int sum = 0;
        for (int t = 0; t < lists.size(); t++) {
            sum += lists.get(t).contains(v) && canGo(t) ? tourists.get(t) : 0;
        }
        return sum;
    }

    private int visitors(int v) {
        int number = 0;
        for (int t = 0; t < lists.size(); t++) {
            number += lists.get(t).contains(v) && canGo(t) ? 1 : 0;
        }
        return number;
    }

    private int stings(int t, int d) {
        int sum = 0;
        if (canGo(t)) {
            for (int v : lists.get(t)) {
                sum += tourists.get(t) * valleys.get(v)[2] * bloom(v, d) / 5000;
            }
        }
        return sum;
    }

    int told(int t, int what) {
        need(isTour(t) && 0 <= what && what <= 5, INDEX);
        return new int[] {tourists.get(t), lists.get(t).size(), minutes(t),
            canGo(t) ? 1 : 0, joy(t, day), stings(t, day)}[what];
    }

    int about(int v, int what) {
        need(isValley(v) && 0 <= what && what <= 5, INDEX);
        int[] it = valleys.get(v);
        return new int[] {it[0], it[1], it[2], bloom(v, day), crowd(v), visitors(v)}[what];
    }

    int count(int what) {
        need(0 <= what && what <= 8, INDEX);
        int going = 0;
        for (int t = 0; t < lists.size(); t++) {
            going += canGo(t) ? 1 : 0;
        }
        int blooming = 0;
        for (int v = 0; v < valleys.size(); v++) {
            blooming += bloom(v, day) > 0 ? 1 : 0;
        }
        return new int[] {day, valleys.size(), roads.size(), lists.size(), going, blooming,
            coins, joyInAll, stingsInAll}[what];
    }

    int pass(int days) {
        need(1 <= days && days <= 60, ARGUMENT);
        int income = 0;
        for (int i = 0; i < days; i++) {
            for (int t = 0; t < lists.size(); t++) {
                int joy = joy(t, day);
                income += joy * tourists.get(t) / 100;
                income += canGo(t) ? tourists.get(t) * heat[day % 10] / 40 : 0;
                joyInAll += joy;
                stingsInAll += stings(t, day);
            }
            day++;
        }
        coins += income;
        return income;
    }

    int joy(int t, int d) {
        need(isTour(t), INDEX);
        need(d >= 0, ARGUMENT);
        int sum = 0;
        if (canGo(t)) {
            for (int v : lists.get(t)) {
                sum += Math.max(0, bloom(v, d) - crowd(v) / 10);
            }
        }
        return sum;
    }

    int best(int t) {
        need(isTour(t), INDEX);
        int[] joys = new int[120];
        for (int i = 0; i < 120; i++) {
            joys[i] = joy(t, day + i);
        }
        int most = Arrays.stream(joys).max().getAsInt();
        for (int i = 0; i < 120; i++) {
            if (most > 0 && joys[i] == most) {
                return day + i;
            }
        }
        return -1;
    }

    int advise(int t) {
        need(isTour(t), INDEX);
        List<Integer> list = lists.get(t);
        int most = joy(t, day);
        int advised = -1;
        for (int v = 0; v < valleys.size() && list.size() < 5; v++) {
            if (!list.contains(v)) {
                list.add(v);
                int then = joy(t, day);
                list.remove(list.size() - 1);
                if (then > most) {
                    most = then;
                    advised = v;
                }
            }
        }
        return advised;
    }

    int foresee(int days, int what) {
        need(1 <= days && days <= 60, ARGUMENT);
        need(5 <= what && what <= 8, INDEX);
        int[] kept = {day, coins, joyInAll, stingsInAll};
        pass(days);
        int answer = count(what);
        day = kept[0];
        coins = kept[1];
        joyInAll = kept[2];
        stingsInAll = kept[3];
        return answer;
    }

    double mean() {
        int sum = 0;
        for (int v = 0; v < valleys.size(); v++) {
            sum += bloom(v, day);
        }
        return valleys.isEmpty() ? 0 : (double) sum / valleys.size();
    }

    long digest() {
        List<Integer> numbers = new ArrayList<>();
        for (int what = 0; what < 9; what++) {
            numbers.add(count(what));
        }
        for (int degrees : heat) {
            numbers.add(degrees);
        }
        for (int v = 0; v < valleys.size(); v++) {
            for (int what = 0; what < 6; what++) {
                numbers.add(about(v, what));
            }
            for (int other = 0; other < valleys.size(); other++) {
                numbers.add(way(v, other));
            }
        }
        for (int t = 0; t < lists.size(); t++) {
            for (int what = 0; what < 6; what++) {
                numbers.add(told(t, what));
            }
            numbers.addAll(lists.get(t));
        }
        long d = 1213;
        for (int x : numbers) {
            d = d * 31 + x;
        }
        return d;
    }
}
