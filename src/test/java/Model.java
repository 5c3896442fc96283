import java.util.ArrayList;
import java.util.List;

/**
 * The document told a second time, as slowly and plainly as can be: nothing is kept that can be
 * worked out again. {@link ModelTest} holds the class against it.
 */
final class Model {
    static final class House {
        int barn, need, beasts, hungry, lack, right, reaped;
    }

    static final class Strip {
        int field, soil, house, grass = 3, dung = 0, rest = 1, growth = -1, late = -1, sown;
        int sownYear = -1;

        boolean crop() {
            return growth >= 0;
        }
    }

    final List<House> houses = new ArrayList<>();
    final List<Strip> strips = new ArrayList<>();
    final List<int[]> trespasses = new ArrayList<>();
    final int[] rain = new int[20];
    final String[] inForce = {"s", "9", "1"};
    final String[] waiting = new String[3];
    final int[] waitingFrom = new int[3];
    String tape = "";
    int week = 0;
    int lost = 0;
    int apart = 3;

    Model() {
        java.util.Arrays.fill(rain, 5);
    }

    private boolean isHouse(int i) {
        return i >= 0 && i < houses.size();
    }

    private boolean isStrip(int i) {
        return i >= 0 && i < strips.size();
    }

    int house(int barn, int need) {
        if (barn < 0 || barn > 10000 || need < 0 || need > 9) {
            return -1;
        }
        if (houses.size() == 12) {
            return -2;
        }
        House h = new House();
        h.barn = barn;
        h.need = need;
        houses.add(h);
        return houses.size() - 1;
    }

    int strip(int field, int soil, int house) {
        if (field < 0 || field > 2 || soil < 1 || soil > 9 || !isHouse(house)) {
            return -1;
        }
        if (strips.size() == 60) {
            return -2;
        }
        Strip s = new Strip();
        s.field = field;
        s.soil = soil;
        s.house = house;
        strips.add(s);
        court();
        return strips.size() - 1;
    }

    int rain(int at, int r) {
        if (at < 0 || at > 19 || r < 0 || r > 9) {
            return -1;
        }
        int was = rain[at];
        rain[at] = r;
        return was;
    }

    int beasts(int house, int n) {
        if (!isHouse(house) || n < 0 || n > 9) {
            return -1;
        }
        int was = houses.get(house).beasts;
        if (n > value(1, house, -1) && n > was) {
            return -5;
        }
        houses.get(house).beasts = n;
        return was;
    }

    private int turn(int field) {
        return (field + week / 20) % 3;
    }

    int sow(int strip) {
        if (!isStrip(strip)) {
            return -1;
        }
        Strip s = strips.get(strip);
        int at = week % 20;
        if (s.sownYear == week / 20 || s.crop() || turn(s.field) == 2 || turn(s.field) == 1 && at < 5) {
            return -3;
        }
        House h = houses.get(s.house);
        if (h.barn == 0) {
            return -4;
        }
        h.barn--;
        s.sownYear = week / 20;
        s.sown = week;
        s.growth = 0;
        s.grass = 0;
        s.late = Math.max(0, at - (turn(s.field) == 0 ? 2 : 7));
        return s.late;
    }

    private int bears(Strip s) {
        return Math.max(0, s.soil + s.dung / 2 + 2 * Math.min(3, s.rest) + s.growth / 8 - s.late);
    }

    int reap(int strip) {
        if (!isStrip(strip)) {
            return -1;
        }
        Strip s = strips.get(strip);
        if (!s.crop() || week < s.sown + 8) {
            return -3;
        }
        int got = bears(s);
        houses.get(s.house).barn += got;
        houses.get(s.house).reaped += got;
        s.dung /= 2;
        s.rest = 0;
        s.grass = 2;
        s.growth = -1;
        s.late = -1;
        return got;
    }

    int week(int n) {
        if (n < 1 || n > 40 || week + n > 2000) {
            return -1;
        }
        for (int i = 0; i < n; i++) {
            goBy();
        }
        return week;
    }

    private void goBy() {
        int r = rain[week % 20];
        for (Strip s : strips) {
            if (s.crop()) {
                s.growth += r <= 5 ? r : 10 - r;
            } else {
                s.grass = Math.min(9, s.grass + (r + 2) / 3);
            }
        }
        for (House h : houses) {
            for (int beast = 0; beast < h.beasts; beast++) {
                graze(h);
            }
        }
        for (House h : houses) {
            if (h.barn >= h.need) {
                h.barn -= h.need;
            } else {
                h.lack += h.need - h.barn;
                h.barn = 0;
            }
        }
        week++;
        for (int kind = 0; kind < 3; kind++) {
            comeInForce(kind);
        }
        if (week % 20 == 0) {
            for (Strip s : strips) {
                if (s.crop()) {
                    lost++;
                    s.growth = -1;
                    s.late = -1;
                }
                if (s.sownYear != week / 20 - 1) {
                    s.rest = Math.min(9, s.rest + 1);
                }
            }
        }
    }

    private void graze(House h) {
        int best = -1;
        for (int i = 0; i < strips.size(); i++) {
            Strip s = strips.get(i);
            if (!s.crop() && s.grass > 0 && open(i) && (best < 0 || s.grass > strips.get(best).grass)) {
                best = i;
            }
        }
        if (best < 0) {
            h.hungry++;
        } else {
            strips.get(best).grass--;
            strips.get(best).dung = Math.min(9, strips.get(best).dung + 1);
        }
    }

    int land(int strip, int what) {
        if (!isStrip(strip) || what < 0 || what > 9) {
            return -9;
        }
        Strip s = strips.get(strip);
        int[] all = {s.field, s.soil, s.house, s.grass, s.dung, s.rest, s.growth, s.late,
            open(strip) ? 1 : 0, s.crop() ? bears(s) : -1};
        return all[what];
    }

    int hold(int house, int what) {
        if (!isHouse(house) || what < 0 || what > 9) {
            return -9;
        }
        House h = houses.get(house);
        int[] all = {h.barn, h.need, h.beasts, h.hungry, h.lack, stripsOf(house), held(house), h.right,
            pieces(house), h.reaped};
        return all[what];
    }

    int hunger(int house) {
        if (!isHouse(house)) {
            return -9;
        }
        House h = houses.get(house);
        if (h.need == 0) {
            return 100000;
        }
        int weeks = 0;
        for (int left = h.barn; left >= h.need; left -= h.need) {
            weeks++;
        }
        return weeks;
    }

    int feed(int n, int v) {
        if (n < 1 || n > 4) {
            return -1;
        }
        if (tape.length() + n > 60) {
            return -2;
        }
        for (int i = 0; i < n; i++) {
            tape += (char) (v >> 8 * i & 255);
        }
        return tape.length();
    }

    int make(int kind, int from) {
        if (kind < 0 || kind > 2 || from < week || from > 2000) {
            return -1;
        }
        int fault = Grammar.fault(tape);
        if (fault >= 0) {
            return -10 * (fault + 1);
        }
        waiting[kind] = tape;
        waitingFrom[kind] = from;
        comeInForce(kind);
        tape = "";
        return 0;
    }

    private void comeInForce(int kind) {
        if (waiting[kind] != null && waitingFrom[kind] <= week) {
            inForce[kind] = waiting[kind];
            waiting[kind] = null;
        }
    }

    int clear() {
        int had = tape.length();
        tape = "";
        return had;
    }

    int law(int kind, int house, int strip) {
        if (kind < 0 || kind > 2 || !isHouse(house) || !isStrip(strip)) {
            return -2000000000;
        }
        return value(kind, house, strip);
    }

    private int value(int kind, int house, int strip) {
        int of = kind == 0 ? strips.get(strip).house : house;
        House h = houses.get(of);
        int[] names = {week % 20, week / 20, 0, 0, 0, 0, 0, h.beasts, stripsOf(of), of};
        if (kind != 1) {
            Strip s = strips.get(strip);
            names[2] = s.field;
            names[3] = turn(s.field) == 2 ? 1 : 0;
            names[4] = s.crop() ? 1 : 0;
            names[5] = s.grass;
            names[6] = s.dung;
        }
        return Grammar.value(inForce[kind], names);
    }

    private boolean open(int strip) {
        return value(0, -1, strip) != 0;
    }

    int text(int kind, int i) {
        if (kind < 0 || kind > 2 || i < 0 || i >= inForce[kind].length()) {
            return -1;
        }
        return inForce[kind].charAt(i);
    }

    int stray(int house, int strip) {
        if (!isHouse(house) || !isStrip(strip)) {
            return -1;
        }
        House h = houses.get(house);
        if (h.beasts == 0) {
            return -3;
        }
        Strip s = strips.get(strip);
        if (s.crop()) {
            s.growth = Math.max(0, s.growth - 2);
        } else {
            s.grass = Math.max(0, s.grass - 1);
        }
        if (open(strip) || s.house == house) {
            return -6;
        }
        int paid = Math.min(h.barn, Math.max(0, value(2, house, strip)));
        h.barn -= paid;
        houses.get(s.house).barn += paid;
        trespasses.add(new int[] {week, house, strip, paid});
        return paid;
    }

    int book(int i, int what) {
        if (i < 0 || i >= 200 || i >= trespasses.size() || what < 0 || what > 3) {
            return -1;
        }
        return trespasses.get(i)[what];
    }

    int apart(int v) {
        if (v < 0 || v > 60) {
            return -1;
        }
        int was = apart;
        apart = v;
        return was;
    }

    int court() {
        int others = 0;
        for (int i = 0; i < houses.size(); i++) {
            if (houses.get(i).right != held(i)) {
                others++;
            }
            houses.get(i).right = held(i);
        }
        return others;
    }

    private int stripsOf(int house) {
        int n = 0;
        for (Strip s : strips) {
            n += s.house == house ? 1 : 0;
        }
        return n;
    }

    private int held(int house) {
        int sum = 0;
        for (Strip s : strips) {
            sum += s.house == house ? 3 * s.soil + 5 : 0;
        }
        return sum;
    }

    private boolean fair(int house) {
        return Math.abs(held(house) - houses.get(house).right) <= apart;
    }

    /** PIECES of a house, or of all if it is -1. */
    private int pieces(int house) {
        int n = 0;
        for (int field = 0; field < 3; field++) {
            int latest = -1;
            for (Strip s : strips) {
                if (s.field == field) {
                    n += s.house != latest && (house < 0 || s.house == house) ? 1 : 0;
                    latest = s.house;
                }
            }
        }
        return n;
    }

    private void change(Strip a, Strip b) {
        int house = a.house;
        a.house = b.house;
        b.house = house;
    }

    /** Makes the exchange if it may be. */
    private boolean exchange(Strip a, Strip b) {
        if (a.house == b.house || a.crop() || b.crop()) {
            return false;
        }
        change(a, b);
        if (fair(a.house) && fair(b.house)) {
            return true;
        }
        change(a, b);
        return false;
    }

    int swap(int a, int b) {
        if (!isStrip(a) || !isStrip(b) || strips.get(a).house == strips.get(b).house) {
            return -1;
        }
        return exchange(strips.get(a), strips.get(b)) ? pieces(-1) : -3;
    }

    int better() {
        int made = 0;
        while (betterOnce()) {
            made++;
        }
        return made;
    }

    private boolean betterOnce() {
        int before = pieces(-1);
        for (int i = 0; i < strips.size(); i++) {
            for (int j = i + 1; j < strips.size(); j++) {
                if (exchange(strips.get(i), strips.get(j))) {
                    if (pieces(-1) < before) {
                        return true;
                    }
                    change(strips.get(i), strips.get(j));
                }
            }
        }
        return false;
    }

    int fewest(int field) {
        if (field < 0 || field > 2) {
            return -1;
        }
        List<Strip> those = new ArrayList<>();
        List<Integer> owners = new ArrayList<>();
        for (Strip s : strips) {
            if (s.field == field) {
                those.add(s);
                owners.add(s.house);
            }
        }
        if (those.size() > 8) {
            return -2;
        }
        int[] best = {piecesOfRow(those)};
        deal(those, new ArrayList<>(owners), 0, best);
        for (int i = 0; i < those.size(); i++) {
            those.get(i).house = owners.get(i);
        }
        return best[0];
    }

    private void deal(List<Strip> those, List<Integer> left, int at, int[] best) {
        if (at == those.size()) {
            boolean all = true;
            for (Strip s : those) {
                all &= fair(s.house);
            }
            if (all) {
                best[0] = Math.min(best[0], piecesOfRow(those));
            }
            return;
        }
        for (int i = 0; i < left.size(); i++) {
            Integer house = left.get(i);
            if (left.indexOf(house) == i) {
                left.remove(i);
                those.get(at).house = house;
                deal(those, left, at + 1, best);
                left.add(i, house);
            }
        }
    }

    private static int piecesOfRow(List<Strip> row) {
        int n = 0;
        for (int i = 0; i < row.size(); i++) {
            n += i == 0 || row.get(i).house != row.get(i - 1).house ? 1 : 0;
        }
        return n;
    }

    int count(int what) {
        if (what < 0 || what > 7) {
            return -1;
        }
        int measures = 0;
        for (House h : houses) {
            measures += h.barn;
        }
        int[] all = {houses.size(), strips.size(), week, tape.length(), trespasses.size(), lost,
            pieces(-1), measures};
        return all[what];
    }
}
