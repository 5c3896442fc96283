/** The edges that section 4 and promises 17 and 18 name, a test for each sentence. */
public final class StrayEdgeTest {
    private static final int NONE = OpenFields.NONE;
    private static final int STATE = OpenFields.STATE;
    private static final int NO_TRESPASS = -6;

    public static void main(String[] args) {
        growthTwoLess();
        grassOneLess();
        neitherOpenNorOwn();
        fine0AtLeast();
        fineAtMostTheBarn();
        fineThatWraps();
        fineOfBareBarns();
        finePaidToTheStripsHouse();
        first200AreKept();
        bookOfTheLastWeek();
        strayNone();
        strayWithoutBeasts();
        bookNone();
        Check.end();
    }

    /** Two houses of 10 measures, a strip of each in field 0 (closed) and one of the second in field 2 (open). */
    private static OpenFields village() {
        OpenFields x = Village.ofHouses(2, 10);
        x.strip(0, 5, 0);
        x.strip(0, 5, 1);
        x.strip(2, 5, 1);
        x.beasts(0, 1);
        return x;
    }

    private static void growthTwoLess() {
        Check.sentence("if that has a CROP its GROWTH is two less (0 at least)");
        for (int growth = 0; growth <= 4; growth++) {
            OpenFields x = village();
            x.sow(1);
            for (int week = 0; week < growth; week++) {
                x.rain(week, 1);
                x.week(1);
            }
            Check.is("growth", x.land(1, 6), growth);
            x.stray(0, 1);
            Check.is("growth of " + growth, x.land(1, 6), Math.max(0, growth - 2));
            Check.is("grass stays 0", x.land(1, 3), 0);
            Check.is("late stays", x.land(1, 7), 0);
        }
    }

    private static void grassOneLess() {
        Check.sentence("else, if it has GRASS, that is one less");
        OpenFields x = village();
        for (int grass = 3; grass >= 0; grass--) {
            Check.is("grass", x.land(1, 3), grass);
            Check.is("a trespass even if there is none", x.stray(0, 1), 1);
        }
        Check.is("not below 0", x.land(1, 3), 0);
        Check.is("no crop by it", x.land(1, 6), -1);
        Check.is("no dung by it", x.land(1, 4), 0);
        Check.is("no beast is lost", x.hold(0, 2), 1);
        Check.is("none is hungry", x.hold(0, 3), 0);
    }

    private static void neitherOpenNorOwn() {
        Check.sentence("If it is neither OPEN nor the HOUSE's own that is a TRESPASS");
        OpenFields x = village();
        x.strip(2, 5, 0);
        Check.is("its own, closed", x.stray(0, 0), NO_TRESPASS);
        Check.is("its own, open", x.stray(0, 3), NO_TRESPASS);
        Check.is("another's, open", x.stray(0, 2), NO_TRESPASS);
        Check.is("none counted", x.count(4), 0);
        Check.is("nothing paid", x.hold(0, 0), 10);
        Check.is("another's, closed", x.stray(0, 1), 1);
        Check.is("one counted", x.count(4), 1);
        Check.is("one written", x.book(0, 2), 1);
        Check.is("no more", x.book(1, 2), NONE);
    }

    private static void fine0AtLeast() {
        Check.sentence("the HOUSE pays FINE (0 at least, at most what its BARN has)");
        String[] texts = {"0-999", "0-1", "0"};
        OpenFields x = village();
        for (int i = 0; i < texts.length; i++) {
            Check.enact(x, 2, texts[i]);
            Check.is(texts[i], x.stray(0, 1), 0);
            Check.is("nothing paid", x.hold(0, 0), 10);
            Check.is("nothing got", x.hold(1, 0), 10);
            Check.is("a trespass even so", x.count(4), i + 1);
            Check.is("written", x.book(i, 3), 0);
        }
    }

    private static void fineAtMostTheBarn() {
        Check.sentence("the HOUSE pays FINE (0 at least, at most what its BARN has)");
        int[] fines = {1, 9, 10, 11, 999};
        for (int fine : fines) {
            OpenFields x = village();
            Check.enact(x, 2, String.valueOf(fine));
            int paid = Math.min(10, fine);
            Check.is("fine " + fine, x.stray(0, 1), paid);
            Check.is("left", x.hold(0, 0), 10 - paid);
            Check.is("got", x.hold(1, 0), 10 + paid);
            Check.is("written", x.book(0, 3), paid);
        }
    }

    private static void fineThatWraps() {
        Check.sentence("the HOUSE pays FINE (0 at least, at most what its BARN has)");
        OpenFields x = village();
        Check.enact(x, 2, "256*256*256*128");
        Check.is("the least int", x.stray(0, 1), 0);
        Check.enact(x, 2, "256*256*256*256");
        Check.is("round to 0", x.stray(0, 1), 0);
        Check.enact(x, 2, "256*256*256*128-1");
        Check.is("the greatest int", x.stray(0, 1), 10);
        Check.is("bare", x.hold(0, 0), 0);
        Check.is("all there", x.hold(1, 0), 20);
    }

    private static void fineOfBareBarns() {
        Check.sentence("at most what its BARN has");
        OpenFields x = Village.ofHouses(2, 0);
        x.strip(0, 5, 1);
        x.beasts(0, 1);
        Check.is("nothing to pay with", x.stray(0, 0), 0);
        Check.is("a trespass even so", x.count(4), 1);
        Check.is("bare", x.hold(0, 0), 0);
        Check.is("nothing got", x.hold(1, 0), 0);
    }

    private static void finePaidToTheStripsHouse() {
        Check.sentence("to the STRIP's HOUSE");
        OpenFields x = Village.ofHouses(12, 5);
        x.strip(0, 5, 0);
        x.strip(0, 5, 11);
        x.beasts(11, 1);
        x.beasts(0, 1);
        Check.enact(x, 2, "h+1");
        Check.is("the first to the last", x.stray(0, 1), 1);
        Check.is("the last to the first", x.stray(11, 0), 6);
        Check.is("the first has", x.hold(0, 0), 5 - 1 + 6);
        Check.is("the last has", x.hold(11, 0), 0);
        Check.is("the others have", x.count(7), 60);
    }

    private static void first200AreKept() {
        Check.sentence("it is written in the BOOK (the first 200 are kept)");
        OpenFields x = Village.ofHouses(2, 190);
        x.strip(0, 5, 1);
        x.beasts(0, 1);
        for (int i = 0; i < 199; i++) {
            x.stray(0, 0);
        }
        Check.is("199", x.book(198, 1), 0);
        Check.is("no 200th yet", x.book(199, 1), NONE);
        x.week(1);
        x.stray(0, 0);
        Check.is("the 200th", x.book(199, 0), 1);
        x.week(1);
        Check.is("one more is fined, too", x.stray(0, 0), 0);
        Check.is("but has no line", x.book(200, 0), NONE);
        Check.is("the 200th stays", x.book(199, 0), 1);
        Check.is("the first stays", x.book(0, 0), 0);
        Check.is("paid", x.book(189, 3), 1);
        Check.is("bare since", x.book(190, 3), 0);
        Check.is("all are trespasses", x.count(4), 201);
    }

    private static void bookOfTheLastWeek() {
        Check.sentence("Of line i of the BOOK: 0 WEEK, 1 HOUSE, 2 STRIP, 3 what was paid.");
        OpenFields x = Village.ofHouses(12, 999);
        for (int i = 0; i < 60; i++) {
            x.strip(0, 5, 0);
        }
        x.beasts(11, 1);
        Check.enact(x, 2, "999");
        x.stray(11, 0);
        Village.until(x, 2000);
        Check.enact(x, 0, "0");
        x.stray(11, 59);
        int[][] due = {{0, 11, 0, 999}, {2000, 11, 59, 0}};
        for (int i = 0; i < due.length; i++) {
            for (int what = 0; what < 4; what++) {
                Check.is("line " + i + ", what " + what, x.book(i, what), due[i][what]);
            }
        }
    }

    private static void strayNone() {
        Check.sentence("-6: it was no TRESPASS. NONE; STATE: the HOUSE has no BEASTS.");
        Check.is("nothing there", new OpenFields().stray(0, 0), NONE);
        Check.is("no strip there", Village.ofHouses(1, 0).stray(0, 0), NONE);
        OpenFields x = village();
        for (int house : new int[] {-1, 2, 12, Integer.MIN_VALUE, Integer.MAX_VALUE}) {
            Check.is("house " + house, x.stray(house, 0), NONE);
        }
        for (int strip : new int[] {-1, 3, 60, Integer.MIN_VALUE, Integer.MAX_VALUE}) {
            Check.is("strip " + strip, x.stray(0, strip), NONE);
            Check.is("strip " + strip + " and no beasts", x.stray(1, strip), NONE);
        }
    }

    private static void strayWithoutBeasts() {
        Check.sentence("STATE: the HOUSE has no BEASTS");
        OpenFields x = village();
        Check.is("none at first", x.stray(1, 0), STATE);
        Check.is("not even onto its own", x.stray(1, 1), STATE);
        Check.is("nor onto an open one", x.stray(1, 2), STATE);
        for (int strip = 0; strip < 3; strip++) {
            Check.is("no harm", x.land(strip, 3), 3);
        }
        Check.is("none counted", x.count(4), 0);
        x.beasts(1, 1);
        Check.is("one beast", x.stray(1, 0), 1);
        x.beasts(1, 0);
        Check.is("none again", x.stray(1, 0), STATE);
    }

    private static void bookNone() {
        Check.sentence("3 what was paid. NONE.");
        OpenFields x = village();
        Check.is("an empty book", x.book(0, 0), NONE);
        x.stray(0, 1);
        for (int line : new int[] {-1, 1, 199, 200, Integer.MIN_VALUE, Integer.MAX_VALUE}) {
            Check.is("line " + line, x.book(line, 0), NONE);
        }
        for (int what : new int[] {-1, 4, Integer.MIN_VALUE, Integer.MAX_VALUE}) {
            Check.is("what " + what, x.book(0, what), NONE);
        }
        Check.is("the least what", x.book(0, 0), 0);
        Check.is("the greatest what", x.book(0, 3), 1);
    }
}
