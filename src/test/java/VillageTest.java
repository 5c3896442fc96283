/** Promises 1 to 5 and 24: a new object, houses, strips, rain, beasts, and what is counted. */
public final class VillageTest {
    public static void main(String[] args) {
        newObject();
        house();
        strip();
        stripSetsAllRights();
        rain();
        beasts();
        count();
        Check.end();
    }

    private static void newObject() {
        OpenFields x = new OpenFields();
        for (int what = 0; what <= 7; what++) {
            Check.is("new: count " + what, x.count(what), 0);
        }
        Check.is("new: no house", x.hold(0, 0), -9);
        Check.is("new: no strip", x.land(0, 0), -9);
        Check.is("new: text of OPEN", x.text(0, 0), 's');
        Check.is("new: text of STINT", x.text(1, 0), '9');
        Check.is("new: text of FINE", x.text(2, 0), '1');
        for (int kind = 0; kind < 3; kind++) {
            Check.is("new: text ends", x.text(kind, 1), OpenFields.NONE);
        }
        Check.is("new: week", x.week(1), 1);
        Check.is("new: apart", x.apart(0), 3);
        Check.is("new: court", x.court(), 0);
        Check.is("new: better", x.better(), 0);
        Check.is("new: fewest", x.fewest(2), 0);
        OpenFields other = new OpenFields();
        other.house(1, 1);
        Check.is("objects are apart", x.count(0), 0);
    }

    private static void house() {
        OpenFields x = new OpenFields();
        Check.is("barn below 0", x.house(-1, 0), OpenFields.NONE);
        Check.is("barn above 10000", x.house(10001, 0), OpenFields.NONE);
        Check.is("need below 0", x.house(0, -1), OpenFields.NONE);
        Check.is("need above 9", x.house(0, 10), OpenFields.NONE);
        Check.is("refused", x.count(0), 0);
        Check.is("least", x.house(0, 0), 0);
        Check.is("most", x.house(10000, 9), 1);
        Check.is("barn", x.hold(1, 0), 10000);
        Check.is("need", x.hold(1, 1), 9);
        for (int what = 2; what <= 9; what++) {
            Check.is("new house: " + what, x.hold(1, what), 0);
        }
        for (int i = 2; i < 12; i++) {
            Check.is("house " + i, x.house(i, 1), i);
        }
        Check.is("thirteenth", x.house(0, 0), OpenFields.FULL);
        Check.is("NONE ahead of FULL", x.house(0, 10), OpenFields.NONE);
        Check.is("twelve", x.count(0), 12);
    }

    private static void strip() {
        OpenFields x = new OpenFields();
        Check.is("no house yet", x.strip(0, 1, 0), OpenFields.NONE);
        x.house(1, 1);
        Check.is("field below 0", x.strip(-1, 1, 0), OpenFields.NONE);
        Check.is("field above 2", x.strip(3, 1, 0), OpenFields.NONE);
        Check.is("soil below 1", x.strip(0, 0, 0), OpenFields.NONE);
        Check.is("soil above 9", x.strip(0, 10, 0), OpenFields.NONE);
        Check.is("house below 0", x.strip(0, 1, -1), OpenFields.NONE);
        Check.is("house not there", x.strip(0, 1, 1), OpenFields.NONE);
        Check.is("refused", x.count(1), 0);
        Check.is("first", x.strip(2, 9, 0), 0);
        int[] due = {2, 9, 0, 3, 0, 1, -1, -1, 1, -1};
        for (int what = 0; what < due.length; what++) {
            Check.is("new strip: " + what, x.land(0, what), due[what]);
        }
        for (int i = 1; i < 60; i++) {
            Check.is("strip " + i, x.strip(i % 3, 1 + i % 9, 0), i);
        }
        Check.is("one too many", x.strip(0, 1, 0), OpenFields.FULL);
        Check.is("NONE ahead of FULL", x.strip(0, 0, 0), OpenFields.NONE);
        Check.is("sixty", x.count(1), 60);
        Check.is("sixty of the house", x.hold(0, 5), 60);
    }

    private static void stripSetsAllRights() {
        OpenFields x = new OpenFields();
        x.house(1, 1);
        x.house(1, 1);
        x.strip(0, 5, 0);
        x.strip(0, 6, 1);
        x.swap(0, 1);
        Check.is("held changes", x.hold(0, 6), 23);
        Check.is("right stays", x.hold(0, 7), 20);
        x.strip(1, 1, 1);
        Check.is("right of the other house", x.hold(0, 7), 23);
        Check.is("right of the strip's house", x.hold(1, 7), 28);
    }

    private static void rain() {
        OpenFields x = new OpenFields();
        Check.is("week below 0", x.rain(-1, 0), OpenFields.NONE);
        Check.is("week above 19", x.rain(20, 0), OpenFields.NONE);
        Check.is("rain below 0", x.rain(0, -1), OpenFields.NONE);
        Check.is("rain above 9", x.rain(0, 10), OpenFields.NONE);
        for (int week = 0; week < 20; week++) {
            Check.is("rain at first", x.rain(week, week % 10), 5);
        }
        for (int week = 0; week < 20; week++) {
            Check.is("rain told", x.rain(week, 5), week % 10);
        }
    }

    private static void beasts() {
        OpenFields x = new OpenFields();
        Check.is("no house", x.beasts(0, 1), OpenFields.NONE);
        x.house(1, 1);
        x.house(1, 1);
        Check.is("below 0", x.beasts(0, -1), OpenFields.NONE);
        Check.is("above 9", x.beasts(0, 10), OpenFields.NONE);
        Check.is("house below 0", x.beasts(-1, 1), OpenFields.NONE);
        Check.is("nine", x.beasts(0, 9), 0);
        Check.is("fewer", x.beasts(0, 5), 9);
        Check.is("now five", x.hold(0, 2), 5);
        Check.enact(x, 1, "3+h");
        Check.is("above the stint", x.beasts(0, 6), OpenFields.LAW);
        Check.is("refused", x.hold(0, 2), 5);
        Check.is("above the stint, not above what was", x.beasts(0, 5), 5);
        Check.is("fewer, still above the stint", x.beasts(0, 4), 5);
        Check.is("back is more", x.beasts(0, 5), OpenFields.LAW);
        Check.is("the stint itself", x.beasts(1, 4), 0);
        Check.is("NONE ahead of LAW", x.beasts(1, 10), OpenFields.NONE);
        Check.enact(x, 1, "0-1");
        Check.is("none is never more", x.beasts(1, 0), 4);
        Check.is("none again", x.beasts(1, 0), 0);
        Check.is("one is more", x.beasts(1, 1), OpenFields.LAW);
        Check.enact(x, 1, "b+2");
        Check.is("b is what they were", x.beasts(1, 2), 0);
        Check.is("b grew", x.beasts(1, 4), 2);
        Check.is("too fast", x.beasts(1, 7), OpenFields.LAW);
    }

    private static void count() {
        OpenFields x = new OpenFields();
        x.house(10, 0);
        x.house(7, 0);
        x.strip(0, 5, 0);
        x.strip(0, 5, 0);
        x.strip(0, 5, 1);
        x.strip(1, 5, 1);
        x.beasts(0, 1);
        x.stray(0, 2);
        x.sow(0);
        x.week(21);
        x.feed(3, 0);
        int[] due = {2, 4, 21, 3, 1, 1, 3, 16};
        for (int what = 0; what < due.length; what++) {
            Check.is("count " + what, x.count(what), due[what]);
        }
        Check.is("count below 0", x.count(-1), OpenFields.NONE);
        Check.is("count above 7", x.count(8), OpenFields.NONE);
    }
}
