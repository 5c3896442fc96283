/** The edges that section 1 and promises 1 to 5 and 24 name, a test for each sentence. */
public final class VillageEdgeTest {
    private static final int NONE = OpenFields.NONE;
    private static final int FULL = OpenFields.FULL;

    public static void main(String[] args) {
        weekFrom0To2000();
        yearOf20Weeks();
        weekAndYearOfAWeek();
        fieldsByTurns();
        housesUpTo11();
        barnTold();
        barnBeyondWhatIsTold();
        need();
        beastsAtFirst();
        stripsUpTo59();
        soil();
        stripsField();
        stripsHouse();
        grassAtFirst();
        dungAtFirst();
        restAtFirst();
        cropOrNone();
        growthAtFirst();
        rainRange();
        rainOfEachWeek();
        newObject();
        memoryOfItsOwn();
        callsUpTo512();
        beastsRange();
        beastsAboveStint();
        beastsNotAboveWhatTheyWere();
        countRange();
        countOfNothing();
        Check.end();
    }

    private static void weekFrom0To2000() {
        Check.sentence("WEEK counts from 0 (at most 2000)");
        OpenFields x = new OpenFields();
        Check.is("at first", x.count(2), 0);
        Village.until(x, 1999);
        Check.is("two more than there are", x.week(2), NONE);
        Check.is("refused", x.count(2), 1999);
        Check.is("the last", x.week(1), 2000);
        Check.is("no more", x.week(1), NONE);
        Check.is("it stays", x.count(2), 2000);
    }

    private static void yearOf20Weeks() {
        Check.sentence("a YEAR has 20 WEEKS");
        OpenFields x = Village.ofThreeStrips();
        Village.until(x, 19);
        Check.is("week 19: field 2 is STILL", x.law(0, 0, 2), 1);
        Check.is("week 19: rest", x.land(2, 5), 1);
        x.week(1);
        Check.is("week 20: field 2 is not STILL", x.law(0, 0, 2), 0);
        Check.is("week 20: field 1 is", x.law(0, 0, 1), 1);
        Check.is("week 20: rest", x.land(2, 5), 2);
        Village.until(x, 39);
        Check.is("week 39: field 1 is STILL", x.law(0, 0, 1), 1);
        x.week(1);
        Check.is("week 40: field 0 is", x.law(0, 0, 0), 1);
    }

    private static void weekAndYearOfAWeek() {
        Check.sentence("WEEK w is week w % 20 of YEAR w / 20");
        OpenFields x = Village.ofThreeStrips();
        Check.enact(x, 1, "y*100+w");
        int[] weeks = {0, 1, 19, 20, 21, 39, 40, 1980, 1999, 2000};
        for (int week : weeks) {
            Village.until(x, week);
            Check.is("week " + week, x.law(1, 0, 0), week / 20 * 100 + week % 20);
        }
    }

    private static void fieldsByTurns() {
        Check.sentence("in YEAR y FIELD f is, by (f + y) % 3: 0 WINTER, 1 SPRING, 2 STILL");
        int[] years = {0, 1, 2, 3, 4, 5, 98, 99};
        for (int year : years) {
            for (int field = 0; field < 3; field++) {
                OpenFields x = Village.ofThreeStrips();
                Village.until(x, 20 * year + 5);
                int turn = (field + year) % 3;
                int due = turn == 0 ? 3 : turn == 1 ? 0 : OpenFields.STATE;
                Check.is("open, year " + year + ", field " + field, x.land(field, 8), turn == 2 ? 1 : 0);
                Check.is("sown, year " + year + ", field " + field, x.sow(field), due);
            }
        }
        OpenFields x = Village.ofThreeStrips();
        Village.until(x, 2000);
        for (int field = 0; field < 3; field++) {
            Check.is("year 100, field " + field, x.land(field, 8), field == 1 ? 1 : 0);
        }
    }

    private static void housesUpTo11() {
        Check.sentence("HOUSES 0 .. 11, as they were made");
        OpenFields x = new OpenFields();
        for (int i = 0; i < 12; i++) {
            Check.is("none of that number yet", x.hold(i, 0), -9);
            Check.is("made", x.house(100 + i, 0), i);
        }
        Check.is("one more", x.house(0, 0), FULL);
        Check.is("there is no 12", x.hold(12, 0), -9);
        Check.is("twelve", x.count(0), 12);
        for (int i = 0; i < 12; i++) {
            Check.is("barn of " + i, x.hold(i, 0), 100 + i);
        }
    }

    private static void barnTold() {
        Check.sentence("a BARN (measures, 0 .. 10000 told)");
        OpenFields x = new OpenFields();
        int[] wrong = {-1, 10001, -10000, Integer.MIN_VALUE, Integer.MAX_VALUE};
        for (int barn : wrong) {
            Check.is("barn " + barn, x.house(barn, 0), NONE);
        }
        Check.is("none made", x.count(0), 0);
        int[] right = {0, 1, 9999, 10000};
        for (int i = 0; i < right.length; i++) {
            Check.is("barn " + right[i], x.house(right[i], 0), i);
            Check.is("it has", x.hold(i, 0), right[i]);
        }
    }

    private static void barnBeyondWhatIsTold() {
        Check.sentence("a BARN (measures, 0 .. 10000 told)");
        OpenFields x = Village.ofHouses(2, 10000);
        x.strip(0, 9, 0);
        x.strip(0, 9, 1);
        x.beasts(1, 1);
        Check.enact(x, 2, "999*11");
        Check.is("a fine", x.stray(1, 0), 10000);
        Check.is("beyond 10000 by a fine", x.hold(0, 0), 20000);
        x.sow(0);
        x.week(8);
        Check.is("a harvest", x.reap(0), 16);
        Check.is("beyond 10000 by a harvest", x.hold(0, 0), 20015);
        Check.is("in all", x.count(7), 20015);
    }

    private static void need() {
        Check.sentence("a NEED (0 .. 9 a WEEK)");
        OpenFields x = new OpenFields();
        int[] wrong = {-1, 10, Integer.MIN_VALUE, Integer.MAX_VALUE};
        for (int need : wrong) {
            Check.is("need " + need, x.house(50, need), NONE);
        }
        Check.is("none made", x.count(0), 0);
        Check.is("need 0", x.house(50, 0), 0);
        Check.is("need 9", x.house(50, 9), 1);
        x.week(1);
        Check.is("eats 0", x.hold(0, 0), 50);
        Check.is("eats 9", x.hold(1, 0), 41);
    }

    private static void beastsAtFirst() {
        Check.sentence("BEASTS (0 at first)");
        OpenFields x = Village.ofHouses(1, 0);
        Check.is("none", x.hold(0, 2), 0);
        Check.is("they were none", x.beasts(0, 9), 0);
        x.week(3);
        x.house(0, 0);
        Check.is("none of a later house", x.hold(1, 2), 0);
    }

    private static void stripsUpTo59() {
        Check.sentence("STRIPS 0 .. 59, as they were made");
        OpenFields x = Village.ofHouses(12, 0);
        for (int i = 0; i < 60; i++) {
            Check.is("none of that number yet", x.land(i, 0), -9);
            Check.is("made", x.strip(i % 3, 1 + i % 9, i % 12), i);
        }
        for (int field = 0; field < 3; field++) {
            Check.is("one more", x.strip(field, 1, 0), FULL);
        }
        Check.is("there is no 60", x.land(60, 0), -9);
        Check.is("sixty", x.count(1), 60);
        for (int i = 0; i < 60; i += 59) {
            Check.is("field of " + i, x.land(i, 0), i % 3);
            Check.is("soil of " + i, x.land(i, 1), 1 + i % 9);
            Check.is("house of " + i, x.land(i, 2), i % 12);
        }
        x.week(1);
        Check.is("the last grows grass", x.land(59, 3), 5);
    }

    private static void soil() {
        Check.sentence("a SOIL (1 .. 9)");
        OpenFields x = Village.ofHouses(1, 0);
        int[] wrong = {0, -1, 10, Integer.MIN_VALUE, Integer.MAX_VALUE};
        for (int soil : wrong) {
            Check.is("soil " + soil, x.strip(0, soil, 0), NONE);
        }
        Check.is("none made", x.count(1), 0);
        Check.is("soil 1", x.strip(0, 1, 0), 0);
        Check.is("soil 9", x.strip(0, 9, 0), 1);
        Check.is("of the first", x.land(0, 1), 1);
        Check.is("of the second", x.land(1, 1), 9);
    }

    private static void stripsField() {
        Check.sentence("FIELDS 0, 1, 2");
        OpenFields x = Village.ofHouses(1, 0);
        int[] wrong = {-1, 3, Integer.MIN_VALUE, Integer.MAX_VALUE};
        for (int field : wrong) {
            Check.is("field " + field, x.strip(field, 1, 0), NONE);
            Check.is("fewest of " + field, x.fewest(field), NONE);
        }
        Check.is("none made", x.count(1), 0);
        for (int field = 0; field < 3; field++) {
            Check.is("field " + field, x.strip(field, 1, 0), field);
            Check.is("of it", x.land(field, 0), field);
        }
    }

    private static void stripsHouse() {
        Check.sentence("A new STRIP: its number. NONE, FULL.");
        OpenFields x = new OpenFields();
        Check.is("no house at all", x.strip(0, 1, 0), NONE);
        x.house(0, 0);
        int[] wrong = {-1, 1, 11, Integer.MIN_VALUE, Integer.MAX_VALUE};
        for (int house : wrong) {
            Check.is("house " + house, x.strip(0, 1, house), NONE);
        }
        Check.is("none made", x.count(1), 0);
        Check.is("the only house", x.strip(0, 1, 0), 0);
    }

    private static void grassAtFirst() {
        Check.sentence("GRASS (0 .. 9; 3 at first)");
        OpenFields x = Village.ofHouses(1, 0);
        x.strip(0, 1, 0);
        Check.is("at first", x.land(0, 3), 3);
        x.week(3);
        Check.is("nine", x.land(0, 3), 9);
        x.strip(0, 1, 0);
        Check.is("of a later one", x.land(1, 3), 3);
        x.week(1);
        Check.is("never more", x.land(0, 3), 9);
        x.beasts(0, 1);
        for (int i = 0; i < 10; i++) {
            x.stray(0, 0);
        }
        Check.is("never less than 0", x.land(0, 3), 0);
    }

    private static void dungAtFirst() {
        Check.sentence("DUNG (0 .. 9; 0)");
        OpenFields x = Village.ofHouses(1, 0);
        x.strip(2, 1, 0);
        Check.is("at first", x.land(0, 4), 0);
        x.beasts(0, 1);
        x.week(9);
        Check.is("nine", x.land(0, 4), 9);
        x.week(1);
        Check.is("never more", x.land(0, 4), 9);
        x.strip(2, 1, 0);
        Check.is("of a later one", x.land(1, 4), 0);
    }

    private static void restAtFirst() {
        Check.sentence("REST (0 .. 9 years; 1)");
        OpenFields x = Village.ofThreeStrips();
        Check.is("at first", x.land(0, 5), 1);
        for (int year = 1; year <= 12; year++) {
            Village.until(x, 20 * year);
            Check.is("year " + year, x.land(0, 5), Math.min(9, 1 + year));
        }
        x.strip(0, 1, 0);
        Check.is("of a later one", x.land(3, 5), 1);
        x.sow(0);
        x.week(8);
        x.reap(0);
        Check.is("the least", x.land(0, 5), 0);
    }

    private static void cropOrNone() {
        Check.sentence("a CROP or none");
        OpenFields x = Village.ofThreeStrips();
        for (int what : new int[] {6, 7, 9}) {
            Check.is("none at first: " + what, x.land(0, what), -1);
        }
        x.sow(0);
        Check.is("growth", x.land(0, 6), 0);
        Check.is("late", x.land(0, 7), 0);
        Check.is("would bear", x.land(0, 9), 7);
        Check.is("the next strip has none", x.land(1, 6), -1);
    }

    private static void growthAtFirst() {
        Check.sentence("A CROP has GROWTH (0 at first)");
        OpenFields x = Village.ofThreeStrips();
        x.sow(0);
        Check.is("at first", x.land(0, 6), 0);
        x.week(8);
        Check.is("grown", x.land(0, 6), 40);
        x.reap(0);
        Village.until(x, 25);
        x.sow(0);
        Check.is("of a second crop", x.land(0, 6), 0);
    }

    private static void rainRange() {
        Check.sentence("RAIN (0 .. 9; 5 at first) of each of the 20 weeks of a YEAR");
        OpenFields x = new OpenFields();
        int[] wrong = {-1, 10, Integer.MIN_VALUE, Integer.MAX_VALUE};
        for (int r : wrong) {
            Check.is("rain " + r, x.rain(0, r), NONE);
            Check.is("rain " + r + " of the last week", x.rain(19, r), NONE);
        }
        for (int week = 0; week < 20; week++) {
            Check.is("at first", x.rain(week, 0), 5);
            Check.is("the least", x.rain(week, 9), 0);
            Check.is("the most", x.rain(week, 5), 9);
        }
    }

    private static void rainOfEachWeek() {
        Check.sentence("The RAIN of a week 0 .. 19: what it was. NONE.");
        OpenFields x = Village.ofThreeStrips();
        int[] wrong = {-1, 20, 2000, Integer.MIN_VALUE, Integer.MAX_VALUE};
        for (int week : wrong) {
            Check.is("week " + week, x.rain(week, 5), NONE);
        }
        x.rain(19, 9);
        x.rain(0, 0);
        x.sow(0);
        x.week(1);
        Check.is("week 0", x.land(0, 6), 0);
        Village.until(x, 19);
        Check.is("weeks 1 to 18", x.land(0, 6), 90);
        x.reap(0);
        Check.is("cut", x.land(0, 3), 2);
        x.week(1);
        Check.is("week 19", x.land(0, 3), 5);
        x.week(1);
        Check.is("week 20 has the rain of week 0", x.land(0, 3), 5);
        x.week(1);
        Check.is("week 21 has that of week 1", x.land(0, 3), 7);
    }

    private static void newObject() {
        Check.sentence("WEEK 0, no houses, no strips.");
        OpenFields x = new OpenFields();
        Check.is("houses", x.count(0), 0);
        Check.is("strips", x.count(1), 0);
        Check.is("week", x.count(2), 0);
        Check.is("no house 0", x.hold(0, 0), -9);
        Check.is("no strip 0", x.land(0, 0), -9);
        x.house(1, 0);
        x.week(5);
        OpenFields other = new OpenFields();
        Check.is("another object: houses", other.count(0), 0);
        Check.is("another object: week", other.count(2), 0);
    }

    private static void memoryOfItsOwn() {
        Check.sentence("All memory is the class's own.");
        OpenFields x = Village.ofThreeStrips();
        OpenFields other = Village.ofThreeStrips();
        Check.enact(x, 0, "1");
        x.feed(2, -1);
        x.rain(0, 9);
        x.apart(60);
        x.house(5, 0);
        x.beasts(1, 1);
        Check.enact(x, 0, "0");
        x.feed(2, -1);
        x.stray(1, 0);
        x.sow(0);
        x.week(1);
        Check.is("x: a trespass", x.count(4), 1);
        Check.is("other: text", other.text(0, 0), 's');
        Check.is("other: tape", other.count(3), 0);
        Check.is("other: trespasses", other.count(4), 0);
        Check.is("other: book", other.book(0, 0), NONE);
        Check.is("other: apart", other.apart(3), 3);
        Check.is("other: rain", other.rain(0, 5), 5);
        Check.is("other: crop", other.land(0, 6), -1);
        Check.is("other: week", other.count(2), 0);
        Check.is("x: tape", x.count(3), 2);
    }

    private static void callsUpTo512() {
        Check.sentence("An object is used for at most 512 calls after it has been made");
        OpenFields x = Village.ofThreeStrips();
        x.house(0, 0);
        x.beasts(1, 9);
        for (int i = 6; i < 510; i++) {
            Check.is("stray", x.stray(1, 0), 0);
        }
        Check.is("call 511", x.count(4), 504);
        Check.is("call 512", x.count(0), 2);
        OpenFields y = Village.ofThreeStrips();
        for (int i = 4; i < 510; i += 2) {
            y.feed(4, '1' | '+' << 8 | '1' << 16 | '0' + i % 10 << 24);
            Check.is("make", y.make(0, 0), 0);
        }
        Check.is("call 511", y.text(0, 3), '8');
        Check.is("call 512", y.law(0, 0, 0), 19);
    }

    private static void beastsRange() {
        Check.sentence("BEASTS of a HOUSE become n (0 .. 9): what they were.");
        OpenFields x = new OpenFields();
        Check.is("no house at all", x.beasts(0, 0), NONE);
        x.house(0, 0);
        int[] wrong = {-1, 10, Integer.MIN_VALUE, Integer.MAX_VALUE};
        for (int n : wrong) {
            Check.is("n " + n, x.beasts(0, n), NONE);
        }
        for (int house : new int[] {-1, 1, 12, Integer.MIN_VALUE, Integer.MAX_VALUE}) {
            Check.is("house " + house, x.beasts(house, 0), NONE);
        }
        Check.is("none", x.beasts(0, 0), 0);
        Check.is("nine", x.beasts(0, 9), 0);
        Check.is("nine they were", x.beasts(0, 0), 9);
        Check.is("none they were", x.beasts(0, 0), 0);
        Check.enact(x, 1, "999");
        Check.is("ten, though STINT is more", x.beasts(0, 10), NONE);
    }

    private static void beastsAboveStint() {
        Check.sentence("LAW: n is more than STINT (and than what they were)");
        OpenFields x = Village.ofHouses(1, 0);
        Check.enact(x, 1, "4");
        Check.is("one more than STINT", x.beasts(0, 5), OpenFields.LAW);
        Check.is("refused", x.hold(0, 2), 0);
        Check.is("STINT", x.beasts(0, 4), 0);
        Check.enact(x, 1, "0");
        Check.is("nothing is let", x.beasts(0, 5), OpenFields.LAW);
        Check.enact(x, 1, "0-1");
        Check.is("less than nothing", x.beasts(0, 5), OpenFields.LAW);
        Check.enact(x, 1, "999*999*999*3");
        Check.that("a STINT that wraps is below 0", 999 * 999 * 999 * 3 < 0);
        Check.is("a STINT that wraps", x.beasts(0, 5), OpenFields.LAW);
        Check.enact(x, 1, "9");
        Check.is("nine", x.beasts(0, 9), 4);
    }

    private static void beastsNotAboveWhatTheyWere() {
        Check.sentence("LAW: n is more than STINT (and than what they were)");
        OpenFields x = Village.ofHouses(1, 0);
        x.beasts(0, 5);
        Check.enact(x, 1, "0-1");
        Check.is("one more than they were", x.beasts(0, 6), OpenFields.LAW);
        Check.is("as many as they were", x.beasts(0, 5), 5);
        Check.is("one less", x.beasts(0, 4), 5);
        Check.is("none", x.beasts(0, 0), 4);
        Check.is("none, as they were", x.beasts(0, 0), 0);
        Check.is("one", x.beasts(0, 1), OpenFields.LAW);
    }

    private static void countRange() {
        Check.sentence("How many: 0 HOUSES, 1 STRIPS, 2 WEEK, 3 bytes on the TAPE, 4 TRESPASSES, "
            + "5 CROPS that are LOST, 6 PIECES in all, 7 measures in all BARNS. NONE.");
        OpenFields x = Village.ofThreeStrips();
        for (int what : new int[] {-1, 8, Integer.MIN_VALUE, Integer.MAX_VALUE}) {
            Check.is("what " + what, x.count(what), NONE);
        }
        Check.is("the least", x.count(0), 1);
        Check.is("the most", x.count(7), 100);
    }

    private static void countOfNothing() {
        Check.sentence("How many: 0 HOUSES");
        OpenFields x = new OpenFields();
        for (int what = 0; what <= 7; what++) {
            Check.is("what " + what, x.count(what), 0);
        }
    }
}
