/** Villages that several tests begin with, and ways to go on with them. */
final class Village {
    private Village() {
    }

    /** Houses without need, each with the same barn. */
    static OpenFields ofHouses(int houses, int barn) {
        OpenFields x = new OpenFields();
        for (int i = 0; i < houses; i++) {
            x.house(barn, 0);
        }
        return x;
    }

    /** One house of 100 measures with a strip of soil 5 in each field. */
    static OpenFields ofThreeStrips() {
        OpenFields x = ofHouses(1, 100);
        for (int field = 0; field < 3; field++) {
            x.strip(field, 5, 0);
        }
        return x;
    }

    /** Houses of 50 measures and strips of one field; the digits tell their houses and soils. */
    static OpenFields ofField(int field, int houses, String owners, String soils) {
        OpenFields x = ofHouses(houses, 50);
        for (int i = 0; i < owners.length(); i++) {
            x.strip(field, soils.charAt(i) - '0', owners.charAt(i) - '0');
        }
        return x;
    }

    /** Weeks go by until it is this one. */
    static void until(OpenFields x, int week) {
        while (x.count(2) < week) {
            x.week(Math.min(40, week - x.count(2)));
        }
    }

    static void rainAlways(OpenFields x, int r) {
        for (int week = 0; week < 20; week++) {
            x.rain(week, r);
        }
    }

    /** The houses of the first strips, a digit each. */
    static String owners(OpenFields x, int strips) {
        StringBuilder owners = new StringBuilder();
        for (int i = 0; i < strips; i++) {
            owners.append(x.land(i, 2));
        }
        return owners.toString();
    }
}
