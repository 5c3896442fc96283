import java.util.ArrayList;
import java.util.List;
import java.util.function.Consumer;
import java.util.function.ToIntFunction;

/**
 * Section 6: the first answer that a call names is given, and what is refused changes nothing. Two
 * villages go the same way, the refused call comes to one of them alone, and all that can be seen of
 * them, at once and after several ways to go on, must be the same.
 */
public final class RefusalTest {
    private static final int NONE = OpenFields.NONE;
    private static final int FULL = OpenFields.FULL;
    private static final int STATE = OpenFields.STATE;
    private static final int EMPTY = OpenFields.EMPTY;
    private static final int LAW = OpenFields.LAW;
    private static final int[] EXTREMES = {Integer.MIN_VALUE, Integer.MIN_VALUE + 1, -1, Integer.MAX_VALUE};

    private static final List<Consumer<OpenFields>> WAYS_ON = List.of(
        x -> { },
        x -> x.week(1),
        x -> x.week(8),
        x -> x.week(20),
        RefusalTest::reapAll,
        RefusalTest::sowNextYear,
        RefusalTest::enactTheTape,
        x -> x.better(),
        x -> x.court(),
        RefusalTest::strayAll);

    public static void main(String[] args) {
        house();
        strip();
        rain();
        beasts();
        sow();
        reap();
        week();
        looks();
        feed();
        make();
        lawAndText();
        strayAndBook();
        apart();
        swap();
        fewest();
        count();
        nothingThere();
        Check.end();
    }

    /**
     * A village in its 7th week with a crop, a waiting by-law, two bytes on the tape, a trespass, and
     * RIGHT that is off from HELD. Strips 0 .. 3 are of field 0, 4 and 5 of field 1, 6 of field 2.
     */
    private static void busy(OpenFields x) {
        x.house(20, 1);
        x.house(30, 2);
        x.house(0, 0);
        int[] owners = {0, 1, 0, 2, 1, 0, 1};
        for (int i = 0; i < owners.length; i++) {
            x.strip(i < 4 ? 0 : i < 6 ? 1 : 2, 4 + i % 3, owners[i]);
        }
        x.rain(9, 2);
        x.apart(4);
        x.swap(0, 1);
        x.apart(5);
        x.beasts(0, 2);
        x.beasts(1, 1);
        x.sow(0);
        x.week(6);
        Check.feed(x, "1");
        x.make(0, 12);
        x.stray(0, 1);
        x.stray(0, 4);
        Check.feed(x, "1+");
    }

    private static void reapAll(OpenFields x) {
        x.week(2);
        for (int i = 0; i < x.count(1); i++) {
            x.reap(i);
        }
    }

    private static void sowNextYear(OpenFields x) {
        for (int i = 0; i < x.count(1); i++) {
            x.sow(i);
        }
        x.week(20);
        for (int i = 0; i < x.count(1); i++) {
            x.sow(i);
        }
        x.week(5);
    }

    private static void enactTheTape(OpenFields x) {
        x.feed(1, '7');
        x.make(0, x.count(2));
        x.week(10);
    }

    private static void strayAll(OpenFields x) {
        for (int i = 0; i < x.count(1); i++) {
            x.stray(0, i);
        }
        x.apart(60);
        x.swap(1, 2);
    }

    private static void refuses(String what, Consumer<OpenFields> before, ToIntFunction<OpenFields> call, int due) {
        OpenFields asked = new OpenFields();
        before.accept(asked);
        Check.is(what, call.applyAsInt(asked), due);
        changesNothing(what, before, call);
    }

    private static void refuses(String what, ToIntFunction<OpenFields> call, int due) {
        refuses(what, RefusalTest::busy, call, due);
    }

    private static void changesNothing(String what, Consumer<OpenFields> before, ToIntFunction<OpenFields> call) {
        for (int way = 0; way < WAYS_ON.size(); way++) {
            Consumer<OpenFields> on = WAYS_ON.get(way);
            List<Integer> without = View.of(before.andThen(on));
            List<Integer> with = View.of(before.andThen(call::applyAsInt).andThen(on));
            Check.that(what + " changes nothing, way " + way, with.equals(without));
        }
    }

    /** All that can be seen of a village, each part of it on a new object, so that none has too many calls. */
    private static final class View {
        private final Consumer<OpenFields> story;
        private final List<Integer> seen = new ArrayList<>();

        private View(Consumer<OpenFields> story) {
            this.story = story;
        }

        static List<Integer> of(Consumer<OpenFields> story) {
            View view = new View(story);
            view.see(0, 1, (x, i) -> view.village(x));
            OpenFields size = new OpenFields();
            story.accept(size);
            view.see(0, size.count(0), view::house);
            view.see(0, size.count(1), view::strip);
            return view.seen;
        }

        private interface Look {
            void at(OpenFields x, int i);
        }

        private void see(int from, int to, Look look) {
            OpenFields x = new OpenFields();
            story.accept(x);
            for (int i = from; i < to; i++) {
                if (i % 6 == 5) {
                    x = new OpenFields();
                    story.accept(x);
                }
                look.at(x, i);
            }
        }

        private void village(OpenFields x) {
            for (int what = 0; what <= 7; what++) {
                seen.add(x.count(what));
            }
            for (int field = 0; field < 3; field++) {
                seen.add(x.fewest(field));
            }
            for (int kind = 0; kind < 3; kind++) {
                for (int i = 0; i < 5; i++) {
                    seen.add(x.text(kind, i));
                }
            }
            for (int line = 0; line < 4; line++) {
                for (int what = 0; what < 4; what++) {
                    seen.add(x.book(line, what));
                }
            }
            for (int week = 0; week < 20; week++) {
                seen.add(x.rain(week, 5));
            }
            seen.add(x.apart(3));
        }

        private void house(OpenFields x, int house) {
            for (int what = 0; what <= 9; what++) {
                seen.add(x.hold(house, what));
            }
            seen.add(x.hunger(house));
            for (int kind = 0; kind < 3; kind++) {
                seen.add(x.law(kind, house, 0));
            }
        }

        private void strip(OpenFields x, int strip) {
            for (int what = 0; what <= 9; what++) {
                seen.add(x.land(strip, what));
            }
            seen.add(x.law(0, 0, strip));
            seen.add(x.law(2, 0, strip));
        }
    }

    private static void house() {
        Check.sentence("A new HOUSE: its number. NONE, FULL.");
        refuses("barn -1", x -> x.house(-1, 0), NONE);
        refuses("barn 10001", x -> x.house(10001, 0), NONE);
        refuses("need -1", x -> x.house(0, -1), NONE);
        refuses("need 10", x -> x.house(0, 10), NONE);
        Consumer<OpenFields> full = RefusalTest::busyWithTwelveHouses;
        refuses("a 13th house", full, x -> x.house(5, 5), FULL);
        refuses("a 13th house with a barn of -1", full, x -> x.house(-1, 5), NONE);
        refuses("a 13th house with a need of 10", full, x -> x.house(5, 10), NONE);
    }

    private static void busyWithTwelveHouses(OpenFields x) {
        busy(x);
        for (int i = 3; i < 12; i++) {
            x.house(i, 1);
        }
    }

    private static void strip() {
        Check.sentence("A new STRIP: its number. NONE, FULL.");
        refuses("field -1", x -> x.strip(-1, 5, 0), NONE);
        refuses("field 3", x -> x.strip(3, 5, 0), NONE);
        refuses("soil 0", x -> x.strip(0, 0, 0), NONE);
        refuses("soil 10", x -> x.strip(0, 10, 0), NONE);
        refuses("house -1", x -> x.strip(0, 5, -1), NONE);
        refuses("house 3", x -> x.strip(0, 5, 3), NONE);
        Consumer<OpenFields> full = RefusalTest::busyWithSixtyStrips;
        refuses("a 61st strip", full, x -> x.strip(0, 5, 0), FULL);
        refuses("a 61st strip in field 3", full, x -> x.strip(3, 5, 0), NONE);
        refuses("a 61st strip of soil 0", full, x -> x.strip(0, 0, 0), NONE);
        refuses("a 61st strip of house 3", full, x -> x.strip(0, 5, 3), NONE);
    }

    private static void busyWithSixtyStrips(OpenFields x) {
        busy(x);
        for (int i = 7; i < 60; i++) {
            x.strip(i % 3, 5, i % 2);
        }
        x.swap(7, 2);
    }

    private static void rain() {
        Check.sentence("The RAIN of a week 0 .. 19: what it was. NONE.");
        refuses("week -1", x -> x.rain(-1, 0), NONE);
        refuses("week 20", x -> x.rain(20, 0), NONE);
        refuses("rain -1", x -> x.rain(9, -1), NONE);
        refuses("rain 10", x -> x.rain(9, 10), NONE);
    }

    private static void beasts() {
        Check.sentence("NONE; LAW: n is more than STINT (and than what they were)");
        Consumer<OpenFields> stinted = x -> {
            busy(x);
            Check.enact(x, 1, "1");
        };
        refuses("house -1", stinted, x -> x.beasts(-1, 1), NONE);
        refuses("house 3", stinted, x -> x.beasts(3, 1), NONE);
        refuses("-1 beasts", stinted, x -> x.beasts(0, -1), NONE);
        refuses("10 beasts, more than STINT", stinted, x -> x.beasts(0, 10), NONE);
        refuses("house 3, more than STINT", stinted, x -> x.beasts(3, 9), NONE);
        refuses("more than STINT", stinted, x -> x.beasts(0, 3), LAW);
    }

    private static void sow() {
        Check.sentence("A STRIP is SOWN: how LATE. NONE; STATE; EMPTY.");
        refuses("strip -1", x -> x.sow(-1), NONE);
        refuses("strip 7", x -> x.sow(7), NONE);
        refuses("a CROP", x -> x.sow(0), STATE);
        refuses("STILL", x -> x.sow(6), STATE);
        refuses("an empty BARN", x -> x.sow(3), EMPTY);
        refuses("sown in this year", x -> {
            busy(x);
            x.week(2);
            x.reap(0);
        }, x -> x.sow(0), STATE);
        refuses("SPRING ahead of week 5", RefusalTest::nextYear, x -> x.sow(0), STATE);
        refuses("SPRING ahead of week 5, and an empty BARN", RefusalTest::nextYear, x -> x.sow(3), STATE);
        refuses("STILL, and an empty BARN", x -> {
            busy(x);
            x.strip(2, 5, 2);
        }, x -> x.sow(7), STATE);
    }

    private static void nextYear(OpenFields x) {
        busy(x);
        x.week(18);
    }

    private static void reap() {
        Check.sentence("NONE; STATE: no CROP, or too early.");
        refuses("strip -1", x -> x.reap(-1), NONE);
        refuses("strip 7", x -> x.reap(7), NONE);
        refuses("no CROP", x -> x.reap(1), STATE);
        refuses("too early", x -> x.reap(0), STATE);
        refuses("LOST", RefusalTest::nextYear, x -> x.reap(0), STATE);
    }

    private static void week() {
        Check.sentence("NONE (also if it would be beyond 2000)");
        refuses("0 weeks", x -> x.week(0), NONE);
        refuses("-1 weeks", x -> x.week(-1), NONE);
        refuses("41 weeks", x -> x.week(41), NONE);
        Consumer<OpenFields> late = x -> {
            busy(x);
            Village.until(x, 1990);
        };
        refuses("beyond 2000", late, x -> x.week(11), NONE);
    }

    private static void looks() {
        Check.sentence("What is refused changes nothing.");
        refuses("land of strip 7", x -> x.land(7, 0), -9);
        refuses("land what 10", x -> x.land(0, 10), -9);
        refuses("hold of house 3", x -> x.hold(3, 0), -9);
        refuses("hold what 10", x -> x.hold(0, 10), -9);
        refuses("hunger of house 3", x -> x.hunger(3), -9);
        for (int i = 0; i < 10; i++) {
            int what = i;
            changesNothing("land " + what, RefusalTest::busy, x -> x.land(0, what));
            changesNothing("hold " + what, RefusalTest::busy, x -> x.hold(0, what));
            changesNothing("count " + what, RefusalTest::busy, x -> x.count(what));
        }
        changesNothing("hunger", RefusalTest::busy, x -> x.hunger(0));
        for (int i = 0; i < 3; i++) {
            int kind = i;
            changesNothing("law " + kind, RefusalTest::busy, x -> x.law(kind, 0, 1));
            changesNothing("text " + kind, RefusalTest::busy, x -> x.text(kind, 0));
            changesNothing("fewest " + kind, RefusalTest::busy, x -> x.fewest(kind));
        }
        changesNothing("book", RefusalTest::busy, x -> x.book(0, 0));
    }

    private static void feed() {
        Check.sentence("how many it has. NONE, FULL.");
        refuses("0 bytes", x -> x.feed(0, '1'), NONE);
        refuses("-1 bytes", x -> x.feed(-1, '1'), NONE);
        refuses("5 bytes", x -> x.feed(5, '1'), NONE);
        Consumer<OpenFields> nearlyFull = x -> {
            busy(x);
            Check.feed(x, "1+".repeat(28) + "1");
        };
        refuses("2 bytes more than 59", nearlyFull, x -> x.feed(2, 0), FULL);
        refuses("5 bytes more than 59", nearlyFull, x -> x.feed(5, 0), NONE);
    }

    private static void make() {
        Check.sentence("if it has one (the TAPE stays). NONE.");
        refuses("a fault", x -> x.make(0, 6), -30);
        refuses("a fault, for later", x -> x.make(0, 9), -30);
        Consumer<OpenFields> whole = x -> {
            busy(x);
            Check.feed(x, "5");
        };
        refuses("kind -1", whole, x -> x.make(-1, 6), NONE);
        refuses("kind 3", whole, x -> x.make(3, 6), NONE);
        refuses("from week 5", whole, x -> x.make(0, 5), NONE);
        refuses("from week -1", whole, x -> x.make(0, -1), NONE);
        refuses("from week 2001", whole, x -> x.make(0, 2001), NONE);
        refuses("an empty tape", x -> {
            busy(x);
            x.clear();
        }, x -> x.make(0, 6), -10);
    }

    private static void lawAndText() {
        Check.sentence("-2000000000: NONE.");
        refuses("law of kind 3", x -> x.law(3, 0, 0), -2000000000);
        refuses("law of house 3", x -> x.law(0, 3, 0), -2000000000);
        refuses("law of strip 7", x -> x.law(1, 0, 7), -2000000000);
        refuses("text of kind 3", x -> x.text(3, 0), NONE);
        refuses("text at 1", x -> x.text(0, 1), NONE);
    }

    private static void strayAndBook() {
        Check.sentence("NONE; STATE: the HOUSE has no BEASTS.");
        refuses("house -1", x -> x.stray(-1, 1), NONE);
        refuses("house 3", x -> x.stray(3, 1), NONE);
        refuses("strip -1", x -> x.stray(0, -1), NONE);
        refuses("strip 7", x -> x.stray(0, 7), NONE);
        refuses("strip 7, and no beasts", x -> x.stray(2, 7), NONE);
        refuses("no beasts, a CROP", x -> x.stray(2, 0), STATE);
        refuses("no beasts, GRASS", x -> x.stray(2, 1), STATE);
        refuses("no beasts, its own", x -> x.stray(2, 3), STATE);
        refuses("line 1", x -> x.book(1, 0), NONE);
        refuses("what 4", x -> x.book(0, 4), NONE);
    }

    private static void apart() {
        Check.sentence("APART: what it was. NONE.");
        refuses("-1", x -> x.apart(-1), NONE);
        refuses("61", x -> x.apart(61), NONE);
    }

    private static void swap() {
        Check.sentence("NONE (also one HOUSE's); STATE: one has a CROP, or it MAY not be.");
        refuses("strip -1", x -> x.swap(-1, 1), NONE);
        refuses("strip 7", x -> x.swap(1, 7), NONE);
        refuses("itself", x -> x.swap(1, 1), NONE);
        refuses("one HOUSE's", x -> x.swap(1, 2), NONE);
        refuses("one HOUSE's, one with a CROP", x -> x.swap(0, 4), NONE);
        refuses("one has a CROP", x -> x.swap(0, 2), STATE);
        refuses("the other has a CROP", x -> x.swap(2, 0), STATE);
        refuses("it MAY not be", x -> {
            busy(x);
            x.apart(0);
        }, x -> x.swap(2, 3), STATE);
    }

    private static void fewest() {
        Check.sentence("NONE: no such FIELD; FULL: it has more than 8 STRIPS.");
        refuses("field -1", x -> x.fewest(-1), NONE);
        refuses("field 3", x -> x.fewest(3), NONE);
        refuses("20 strips", RefusalTest::busyWithSixtyStrips, x -> x.fewest(0), FULL);
    }

    private static void count() {
        Check.sentence("7 measures in all BARNS. NONE.");
        refuses("what -1", x -> x.count(-1), NONE);
        refuses("what 8", x -> x.count(8), NONE);
    }

    private static void nothingThere() {
        Check.sentence("NONE (-1): there is no such thing, or a number is not as said");
        OpenFields x = new OpenFields();
        for (int number : new int[] {0, 1, -1, Integer.MIN_VALUE, Integer.MAX_VALUE}) {
            Check.is("strip", x.strip(0, 5, number), NONE);
            Check.is("beasts", x.beasts(number, 0), NONE);
            Check.is("sow", x.sow(number), NONE);
            Check.is("reap", x.reap(number), NONE);
            Check.is("land", x.land(number, 0), -9);
            Check.is("hold", x.hold(number, 0), -9);
            Check.is("hunger", x.hunger(number), -9);
            Check.is("law", x.law(0, number, number), -2000000000);
            Check.is("stray", x.stray(number, number), NONE);
            Check.is("book", x.book(number, 0), NONE);
            Check.is("swap", x.swap(number, number), NONE);
        }
        OpenFields busy = new OpenFields();
        busy(busy);
        busy.feed(1, '1');
        for (int far : EXTREMES) {
            Check.is("rain", busy.rain(far, far), NONE);
            Check.is("beasts", busy.beasts(0, far), NONE);
            Check.is("week", busy.week(far), NONE);
            Check.is("land", busy.land(0, far), -9);
            Check.is("hold", busy.hold(0, far), -9);
            Check.is("feed", busy.feed(far, far), NONE);
            Check.is("make", busy.make(0, far), NONE);
            Check.is("make of a kind", busy.make(far, 6), NONE);
            Check.is("text", busy.text(0, far), NONE);
            Check.is("book", busy.book(0, far), NONE);
            Check.is("apart", busy.apart(far), NONE);
            Check.is("fewest", busy.fewest(far), NONE);
            Check.is("count", busy.count(far), NONE);
        }
    }
}
