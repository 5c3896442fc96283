/** The edges that section 2 and promises 6 to 11 name, a test for each sentence. */
public final class YearEdgeTest {
    private static final int NONE = OpenFields.NONE;
    private static final int STATE = OpenFields.STATE;
    private static final int EMPTY = OpenFields.EMPTY;

    public static void main(String[] args) {
        cropGrows();
        grassGrows();
        grassGrowsToNine();
        herdTakesTheMostGrass();
        herdTakesTheLeastOfSeveral();
        herdTakesOnlySomeGrass();
        herdTakesOnlyOpenStrips();
        herdLeavesCrops();
        dungNineAtMost();
        hungry();
        herdHouseByHouse();
        herdBehindTheGrass();
        herdEachBeast();
        lack();
        cropsAreLost();
        restMore();
        restNineAtMost();
        restOfALateStrip();
        oneMeasure();
        sownOnceAYear();
        notStill();
        springFromWeek5();
        lateWinter();
        lateSpring();
        grassIs0Then();
        eightWeeks();
        eightWeeksAtTheEndOfAYear();
        dungHalfCounts();
        restThreeAtMost();
        growthEighth();
        bearsNothingAtLeast();
        dungIsHalved();
        behindTheHarvest();
        sowNone();
        reapRefused();
        weeksAtOnce();
        weeksBeyond2000();
        landUnknown();
        landWithoutCrop();
        landOpen();
        landWouldBear();
        holdUnknown();
        holdOfNothing();
        hunger();
        hungerWithoutNeed();
        Check.end();
    }

    private static void cropGrows() {
        Check.sentence("each CROP grows by 5 less what r is off from 5");
        int[] due = {0, 1, 2, 3, 4, 5, 4, 3, 2, 1};
        for (int r = 0; r <= 9; r++) {
            OpenFields x = Village.ofThreeStrips();
            x.rain(0, r);
            x.sow(0);
            x.week(1);
            Check.is("rain " + r, x.land(0, 6), due[r]);
        }
    }

    private static void grassGrows() {
        Check.sentence("each STRIP without CROP has (r + 2) / 3 GRASS more (the rest away; 9 at most)");
        int[] due = {0, 1, 1, 1, 2, 2, 2, 3, 3, 3};
        for (int r = 0; r <= 9; r++) {
            OpenFields x = Village.ofThreeStrips();
            x.rain(0, r);
            x.sow(0);
            x.week(1);
            Check.is("rain " + r, x.land(1, 3), 3 + due[r]);
            Check.is("under a crop, rain " + r, x.land(0, 3), 0);
        }
    }

    private static void grassGrowsToNine() {
        Check.sentence("each STRIP without CROP has (r + 2) / 3 GRASS more (the rest away; 9 at most)");
        int[][] rains = {{9, 5, 0}, {9, 8, 0}, {9, 9, 0}, {9, 5, 1}, {9, 5, 5}, {9, 5, 9}};
        int[] due = {8, 9, 9, 9, 9, 9};
        for (int i = 0; i < rains.length; i++) {
            OpenFields x = Village.ofThreeStrips();
            for (int week = 0; week < 3; week++) {
                x.rain(week, rains[i][week]);
            }
            x.week(3);
            Check.is("rains " + i, x.land(0, 3), due[i]);
        }
    }

    private static OpenFields dryPasture(int strips) {
        OpenFields x = Village.ofHouses(1, 0);
        Village.rainAlways(x, 0);
        for (int i = 0; i < strips; i++) {
            x.strip(2, 5, 0);
        }
        x.beasts(0, 1);
        return x;
    }

    private static void herdTakesTheMostGrass() {
        Check.sentence("each of its BEASTS goes to the OPEN STRIP without CROP that has the most GRASS");
        OpenFields x = dryPasture(3);
        x.stray(0, 0);
        x.stray(0, 0);
        x.stray(0, 1);
        x.week(1);
        Check.is("the one with 1", x.land(0, 4), 0);
        Check.is("the one with 2", x.land(1, 4), 0);
        Check.is("the one with 3", x.land(2, 4), 1);
    }

    private static void herdTakesTheLeastOfSeveral() {
        Check.sentence("and some (of several the least)");
        OpenFields x = dryPasture(3);
        x.stray(0, 0);
        x.week(1);
        Check.is("less grass", x.land(0, 4), 0);
        Check.is("the least of two", x.land(1, 4), 1);
        Check.is("the other one", x.land(2, 4), 0);
        x.week(1);
        Check.is("the only one with 3 now", x.land(2, 4), 1);
        x.week(1);
        Check.is("the least of three with 2", x.land(0, 4), 1);
    }

    private static void herdTakesOnlySomeGrass() {
        Check.sentence("and some (of several the least)");
        OpenFields x = dryPasture(1);
        x.week(2);
        Check.is("one left", x.land(0, 3), 1);
        Check.is("none is hungry", x.hold(0, 3), 0);
        x.week(1);
        Check.is("the last", x.land(0, 3), 0);
        Check.is("none is hungry yet", x.hold(0, 3), 0);
        x.week(1);
        Check.is("nothing to take", x.land(0, 3), 0);
        Check.is("no dung for nothing", x.land(0, 4), 3);
        Check.is("hungry", x.hold(0, 3), 1);
    }

    private static void herdTakesOnlyOpenStrips() {
        Check.sentence("goes to the OPEN STRIP without CROP that has the most GRASS");
        OpenFields x = dryPasture(1);
        x.strip(0, 5, 0);
        x.stray(0, 0);
        x.week(1);
        Check.is("open, with less", x.land(0, 4), 1);
        Check.is("closed, with more", x.land(1, 4), 0);
        Check.enact(x, 0, "0");
        x.week(1);
        Check.is("all closed", x.hold(0, 3), 1);
        Check.enact(x, 0, "0-1");
        x.week(1);
        Check.is("below 0 is open", x.land(1, 4), 1);
    }

    private static void herdLeavesCrops() {
        Check.sentence("goes to the OPEN STRIP without CROP that has the most GRASS");
        OpenFields x = Village.ofThreeStrips();
        Village.rainAlways(x, 0);
        Check.enact(x, 0, "c");
        x.sow(0);
        x.beasts(0, 1);
        x.week(1);
        Check.is("no dung on a crop", x.land(0, 4), 0);
        Check.is("hungry", x.hold(0, 3), 1);
    }

    private static void dungNineAtMost() {
        Check.sentence("that has one GRASS less, and one DUNG more (9 at most)");
        OpenFields x = dryPasture(1);
        Village.rainAlways(x, 5);
        x.week(8);
        Check.is("eight", x.land(0, 4), 8);
        x.week(1);
        Check.is("nine", x.land(0, 4), 9);
        int grass = x.land(0, 3);
        x.rain(9, 0);
        x.week(1);
        Check.is("nine at most", x.land(0, 4), 9);
        Check.is("one grass less even so", x.land(0, 3), grass - 1);
    }

    private static void hungry() {
        Check.sentence("There is none: its HOUSE is one HUNGRY more.");
        OpenFields x = Village.ofHouses(1, 0);
        x.beasts(0, 9);
        x.week(1);
        Check.is("no strips at all", x.hold(0, 3), 9);
        x.week(2);
        Check.is("three weeks", x.hold(0, 3), 27);
        x.beasts(0, 0);
        x.week(1);
        Check.is("no beasts, no hunger", x.hold(0, 3), 27);
        x = dryPasture(1);
        x.beasts(0, 4);
        x.week(1);
        Check.is("three fed, one not", x.hold(0, 3), 1);
    }

    private static void herdHouseByHouse() {
        Check.sentence("HOUSE by HOUSE");
        OpenFields x = Village.ofHouses(3, 0);
        Village.rainAlways(x, 0);
        x.strip(2, 5, 2);
        x.beasts(2, 2);
        x.beasts(1, 2);
        x.beasts(0, 1);
        x.week(1);
        Check.is("the first: fed", x.hold(0, 3), 0);
        Check.is("the second: fed", x.hold(1, 3), 0);
        Check.is("the last, whose strip it is: not", x.hold(2, 3), 2);
    }

    private static void herdBehindTheGrass() {
        Check.sentence("1 each CROP grows by 5 less what r is off from 5; each STRIP without CROP has "
            + "(r + 2) / 3 GRASS more (the rest away; 9 at most). 2 the HERD");
        OpenFields x = dryPasture(1);
        for (int i = 0; i < 3; i++) {
            x.stray(0, 0);
        }
        x.rain(0, 1);
        x.week(1);
        Check.is("what grew is eaten", x.land(0, 3), 0);
        Check.is("none is hungry", x.hold(0, 3), 0);
        x = dryPasture(1);
        Village.rainAlways(x, 9);
        x.week(3);
        Check.is("nine at most, and one less", x.land(0, 3), 8);
    }

    private static void herdEachBeast() {
        Check.sentence("each of its BEASTS goes to the OPEN STRIP without CROP that has the most GRASS");
        OpenFields x = dryPasture(2);
        x.beasts(0, 5);
        x.week(1);
        Check.is("0, 1, 0, 1, 0: of the first", x.land(0, 3), 0);
        Check.is("0, 1, 0, 1, 0: of the second", x.land(1, 3), 1);
        x = dryPasture(1);
        Check.enact(x, 0, "g>2");
        x.beasts(0, 2);
        x.week(1);
        Check.is("it closes behind the first beast", x.land(0, 3), 2);
        Check.is("the second is hungry", x.hold(0, 3), 1);
        x = dryPasture(2);
        Check.enact(x, 0, "g=3&d=0|d=1");
        x.beasts(0, 5);
        x.week(1);
        Check.is("3 and 2 of the first, then 3 and 2 of the second", x.land(0, 4) * 10 + x.land(1, 4), 22);
        Check.is("the fifth is hungry", x.hold(0, 3), 1);
    }

    private static void lack() {
        Check.sentence("3 each HOUSE eats its NEED from its BARN; what is not there is LACK.");
        int[][] barnNeedBarnLack = {
            {0, 0, 0, 0}, {0, 9, 0, 9}, {8, 9, 0, 1}, {9, 9, 0, 0}, {10, 9, 1, 0}, {1, 0, 1, 0}, {0, 1, 0, 1},
        };
        for (int[] row : barnNeedBarnLack) {
            OpenFields x = new OpenFields();
            x.house(row[0], row[1]);
            x.week(1);
            Check.is("barn of " + row[0] + ", need of " + row[1], x.hold(0, 0), row[2]);
            Check.is("lack by " + row[0] + ", need of " + row[1], x.hold(0, 4), row[3]);
        }
    }

    private static void cropsAreLost() {
        Check.sentence("If that begins a YEAR: each CROP that is there is LOST");
        OpenFields x = Village.ofThreeStrips();
        Village.until(x, 11);
        x.sow(0);
        x.sow(1);
        Village.until(x, 19);
        Check.is("week 19", x.count(5), 0);
        Check.that("one is reaped in week 19", x.reap(1) > 0);
        x.week(1);
        Check.is("one is lost", x.count(5), 1);
        Check.is("gone", x.land(0, 6), -1);
        Check.is("it bears nothing", x.reap(0), STATE);
        Check.is("no measures of it", x.hold(0, 9), x.hold(0, 0) - 98);
        x.week(20);
        Check.is("lost once", x.count(5), 1);
        x = Village.ofThreeStrips();
        x.sow(0);
        x.week(40);
        Check.is("two years at once", x.count(5), 1);
    }

    private static void restMore() {
        Check.sentence("each STRIP that was not SOWN in the YEAR that went has one REST more (9 at most)");
        OpenFields x = Village.ofThreeStrips();
        Village.until(x, 5);
        x.sow(0);
        x.sow(1);
        x.week(8);
        x.reap(0);
        x.week(6);
        Check.is("not ahead of the year's end", x.land(2, 5), 1);
        x.week(1);
        Check.is("sown and reaped", x.land(0, 5), 0);
        Check.is("sown and lost", x.land(1, 5), 1);
        Check.is("not sown", x.land(2, 5), 2);
        x.week(20);
        Check.is("a year later: reaped", x.land(0, 5), 1);
        Check.is("a year later: lost", x.land(1, 5), 2);
        Check.is("a year later: not sown", x.land(2, 5), 3);
    }

    private static void restNineAtMost() {
        Check.sentence("has one REST more (9 at most)");
        OpenFields x = Village.ofThreeStrips();
        Village.until(x, 7 * 20);
        Check.is("eight", x.land(0, 5), 8);
        x.week(20);
        Check.is("nine", x.land(0, 5), 9);
        x.week(40);
        Check.is("nine at most", x.land(0, 5), 9);
    }

    private static void restOfALateStrip() {
        Check.sentence("each STRIP that was not SOWN in the YEAR that went has one REST more");
        OpenFields x = Village.ofThreeStrips();
        Village.until(x, 19);
        x.strip(0, 5, 0);
        x.strip(0, 5, 0);
        x.sow(3);
        x.week(1);
        Check.is("made and sown in the last week", x.land(3, 5), 1);
        Check.is("made in the last week", x.land(4, 5), 2);
    }

    private static void oneMeasure() {
        Check.sentence("TO SOW a STRIP: one measure of its HOUSE's BARN.");
        OpenFields x = Village.ofHouses(2, 1);
        x.strip(0, 5, 0);
        x.strip(0, 5, 0);
        x.strip(0, 5, 1);
        Check.is("the only measure", x.sow(0), 0);
        Check.is("none left", x.hold(0, 0), 0);
        Check.is("nothing to sow", x.sow(1), EMPTY);
        Check.is("no crop", x.land(1, 6), -1);
        Check.is("the barn is not below 0", x.hold(0, 0), 0);
        Check.is("another house has one", x.sow(2), 0);
        Check.is("and pays it", x.hold(1, 0), 0);
    }

    private static void sownOnceAYear() {
        Check.sentence("It is not SOWN in this YEAR yet, has no CROP, its FIELD is not STILL");
        OpenFields x = Village.ofThreeStrips();
        x.sow(0);
        Check.is("a crop", x.sow(0), STATE);
        x.week(8);
        x.reap(0);
        Check.is("sown in this year", x.sow(0), STATE);
        Check.is("paid once", x.hold(0, 0), 100 - 1 + 12);
        Village.until(x, 19);
        Check.is("to the year's end", x.sow(0), STATE);
        Village.until(x, 25);
        Check.is("in the next year", x.sow(0), 0);
        Check.is("a crop again", x.sow(0), STATE);
        OpenFields lost = Village.ofThreeStrips();
        Village.until(lost, 19);
        lost.sow(0);
        lost.week(6);
        Check.is("lost, in the next year", lost.sow(0), 0);
    }

    private static void notStill() {
        Check.sentence("its FIELD is not STILL");
        OpenFields x = Village.ofThreeStrips();
        for (int week = 0; week < 20; week++) {
            Village.until(x, week);
            Check.is("week " + week, x.sow(2), STATE);
        }
        x.week(1);
        Check.is("WINTER in the next year", x.sow(2), 0);
        Check.is("field 1 is STILL then", x.sow(1), STATE);
    }

    private static void springFromWeek5() {
        Check.sentence("in SPRING FIELDS not ahead of week 5");
        OpenFields x = Village.ofThreeStrips();
        Check.is("week 0", x.sow(1), STATE);
        Village.until(x, 4);
        Check.is("week 4", x.sow(1), STATE);
        x.week(1);
        Check.is("week 5", x.sow(1), 0);
        Village.until(x, 20);
        Check.is("week 20: field 0 is SPRING", x.sow(0), STATE);
        Village.until(x, 24);
        Check.is("week 24", x.sow(0), STATE);
        x.week(1);
        Check.is("week 25", x.sow(0), 0);
        Check.is("WINTER in week 0", Village.ofThreeStrips().sow(0), 0);
    }

    private static void lateWinter() {
        Check.sentence("LATE is how far its week is behind week 2 (WINTER), 7 (SPRING), or 0.");
        for (int week = 0; week < 20; week++) {
            OpenFields x = Village.ofThreeStrips();
            Village.until(x, week);
            Check.is("week " + week, x.sow(0), Math.max(0, week - 2));
            Check.is("LATE, week " + week, x.land(0, 7), Math.max(0, week - 2));
        }
        OpenFields x = Village.ofThreeStrips();
        Village.until(x, 63);
        Check.is("week 3 of year 3", x.sow(0), 1);
    }

    private static void lateSpring() {
        Check.sentence("LATE is how far its week is behind week 2 (WINTER), 7 (SPRING), or 0.");
        for (int week = 5; week < 20; week++) {
            OpenFields x = Village.ofThreeStrips();
            Village.until(x, week);
            Check.is("week " + week, x.sow(1), Math.max(0, week - 7));
            Check.is("LATE, week " + week, x.land(1, 7), Math.max(0, week - 7));
        }
        OpenFields x = Village.ofThreeStrips();
        Village.until(x, 68);
        Check.is("week 8 of year 3", x.sow(1), 1);
    }

    private static void grassIs0Then() {
        Check.sentence("GRASS is 0 then.");
        OpenFields x = Village.ofThreeStrips();
        Village.until(x, 3);
        Check.is("nine ahead", x.land(0, 3), 9);
        x.sow(0);
        Check.is("0", x.land(0, 3), 0);
        x.week(3);
        Check.is("none grows under a crop", x.land(0, 3), 0);
    }

    private static void eightWeeks() {
        Check.sentence("at the earliest 8 WEEKS behind that when it was SOWN");
        OpenFields x = Village.ofThreeStrips();
        x.week(2);
        x.sow(0);
        Check.is("at once", x.reap(0), STATE);
        x.week(7);
        Check.is("7 weeks", x.reap(0), STATE);
        Check.is("it still stands", x.land(0, 6), 35);
        x.week(1);
        Check.is("8 weeks", x.reap(0), 12);
        x = Village.ofThreeStrips();
        x.sow(0);
        x.week(19);
        Check.is("19 weeks", x.reap(0), 5 + 2 + 95 / 8);
    }

    private static void eightWeeksAtTheEndOfAYear() {
        Check.sentence("at the earliest 8 WEEKS behind that when it was SOWN");
        OpenFields x = Village.ofThreeStrips();
        Village.until(x, 11);
        x.sow(0);
        x.week(1);
        x.sow(1);
        Village.until(x, 19);
        Check.is("sown in week 11", x.reap(0), 5 + 2 + 5 - 9);
        Check.is("sown in week 12", x.reap(1), STATE);
        x.week(1);
        Check.is("lost in week 20", x.reap(1), STATE);
    }

    /** A strip of soil 1 with so much dung, sown in time in year 1, when REST is 2. */
    private static OpenFields dunged(int dung) {
        OpenFields x = Village.ofHouses(1, 9);
        x.strip(2, 1, 0);
        x.beasts(0, 1);
        x.week(dung + 1);
        x.beasts(0, 0);
        Village.until(x, 20);
        x.sow(0);
        return x;
    }

    private static void dungHalfCounts() {
        Check.sentence("Its HOUSE's BARN has more: SOIL, DUNG / 2");
        for (int dung = 1; dung <= 9; dung++) {
            OpenFields x = dunged(dung - 1);
            Check.is("dung", x.land(0, 4), dung);
            Check.is("would bear with dung " + dung, x.land(0, 9), 1 + dung / 2 + 4);
        }
    }

    private static void restThreeAtMost() {
        Check.sentence("two times REST (3 at most)");
        int[] due = {0, 2, 4, 6, 6};
        for (int year = 1; year <= 4; year++) {
            OpenFields x = Village.ofThreeStrips();
            Village.until(x, 20 * (year - 1) + 5);
            int field = (3 - (year - 1) % 3 + 1) % 3;
            x.sow(field);
            Check.is("rest", x.land(field, 5), year);
            Check.is("would bear with rest " + year, x.land(field, 9), 5 + due[year]);
        }
        OpenFields x = Village.ofThreeStrips();
        Village.until(x, 180);
        x.sow(0);
        Check.is("rest", x.land(0, 5), 9);
        Check.is("would bear with rest 9", x.land(0, 9), 5 + 6);
        x.week(8);
        x.reap(0);
        Village.until(x, 205);
        Check.is("in the year behind", x.sow(0), 0);
        Check.is("rest", x.land(0, 5), 0);
        Check.is("would bear with rest 0", x.land(0, 9), 5);
    }

    private static void growthEighth() {
        Check.sentence("GROWTH / 8, less LATE (quotients with the rest away; 0 at least)");
        int[] growths = {0, 1, 7, 8, 9, 15, 16, 17};
        for (int growth : growths) {
            OpenFields x = Village.ofThreeStrips();
            x.sow(0);
            for (int week = 0; week < growth; week++) {
                x.rain(week, 1);
                x.week(1);
            }
            Check.is("growth", x.land(0, 6), growth);
            Check.is("would bear with growth " + growth, x.land(0, 9), 7 + growth / 8);
        }
    }

    private static void bearsNothingAtLeast() {
        Check.sentence("(quotients with the rest away; 0 at least)");
        int[] weeks = {4, 5, 6, 19};
        int[] due = {1, 0, 0, 0};
        for (int i = 0; i < weeks.length; i++) {
            OpenFields x = Village.ofHouses(1, 9);
            x.strip(0, 1, 0);
            Village.rainAlways(x, 0);
            Village.until(x, weeks[i]);
            Check.is("late", x.sow(0), weeks[i] - 2);
            Check.is("3 less LATE, week " + weeks[i], x.land(0, 9), due[i]);
        }
        OpenFields x = Village.ofHouses(1, 9);
        x.strip(0, 1, 0);
        Village.rainAlways(x, 0);
        Village.until(x, 11);
        x.sow(0);
        x.week(8);
        Check.is("3 less 9", x.reap(0), 0);
        Check.is("the barn has no less", x.hold(0, 0), 8);
        Check.is("reaped in all", x.hold(0, 9), 0);
        Check.is("the crop is gone", x.land(0, 6), -1);
    }

    private static void dungIsHalved() {
        Check.sentence("Then DUNG is halved (the rest away), REST 0, GRASS 2, the CROP gone.");
        for (int dung = 1; dung <= 9; dung++) {
            OpenFields x = dunged(dung - 1);
            x.week(8);
            x.reap(0);
            Check.is("of " + dung, x.land(0, 4), dung / 2);
        }
        OpenFields x = Village.ofThreeStrips();
        x.sow(0);
        x.week(8);
        x.reap(0);
        Check.is("of 0", x.land(0, 4), 0);
    }

    private static void behindTheHarvest() {
        Check.sentence("Then DUNG is halved (the rest away), REST 0, GRASS 2, the CROP gone.");
        OpenFields x = Village.ofThreeStrips();
        Village.until(x, 60);
        x.sow(0);
        x.week(8);
        Check.is("rest ahead", x.land(0, 5), 4);
        x.reap(0);
        Check.is("rest", x.land(0, 5), 0);
        Check.is("grass", x.land(0, 3), 2);
        for (int what : new int[] {6, 7, 9}) {
            Check.is("no crop: " + what, x.land(0, what), -1);
        }
        Check.is("it can't be reaped again", x.reap(0), STATE);
    }

    private static void sowNone() {
        Check.sentence("A STRIP is SOWN: how LATE. NONE; STATE; EMPTY.");
        Check.is("no strip at all", new OpenFields().sow(0), NONE);
        OpenFields x = Village.ofThreeStrips();
        for (int strip : new int[] {-1, 3, 60, Integer.MIN_VALUE, Integer.MAX_VALUE}) {
            Check.is("strip " + strip, x.sow(strip), NONE);
        }
        x = Village.ofHouses(1, 0);
        x.strip(2, 5, 0);
        x.strip(0, 5, 0);
        Check.is("STILL, and the barn has nothing", x.sow(0), STATE);
        Check.is("the barn has nothing", x.sow(1), EMPTY);
    }

    private static void reapRefused() {
        Check.sentence("A STRIP is REAPED: how many measures. NONE; STATE: no CROP, or too early.");
        Check.is("no strip at all", new OpenFields().reap(0), NONE);
        OpenFields x = Village.ofThreeStrips();
        for (int strip : new int[] {-1, 3, 60, Integer.MIN_VALUE, Integer.MAX_VALUE}) {
            Check.is("strip " + strip, x.reap(strip), NONE);
        }
        x.week(10);
        Check.is("no crop, though 8 weeks went by", x.reap(0), STATE);
    }

    private static void weeksAtOnce() {
        Check.sentence("n (1 .. 40) WEEKS GO BY: WEEK.");
        OpenFields x = new OpenFields();
        for (int n : new int[] {0, -1, 41, -40, Integer.MIN_VALUE, Integer.MAX_VALUE}) {
            Check.is("n " + n, x.week(n), NONE);
        }
        Check.is("none went by", x.count(2), 0);
        Check.is("1", x.week(1), 1);
        Check.is("40", x.week(40), 41);
    }

    private static void weeksBeyond2000() {
        Check.sentence("NONE (also if it would be beyond 2000)");
        OpenFields x = Village.ofHouses(1, 10000);
        x.beasts(0, 1);
        Village.until(x, 1961);
        Check.is("40 more are 2001", x.week(40), NONE);
        Check.is("none of them went by", x.hold(0, 3), 1961);
        Check.is("39 more are 2000", x.week(39), 2000);
        for (int n : new int[] {1, 40, 41, 0, Integer.MAX_VALUE}) {
            Check.is("at 2000: n " + n, x.week(n), NONE);
        }
        OpenFields y = new OpenFields();
        Village.until(y, 1960);
        Check.is("40 more are 2000", y.week(40), 2000);
    }

    private static void landUnknown() {
        Check.sentence("-9: there is no such strip, what.");
        Check.is("no strip at all", new OpenFields().land(0, 0), -9);
        OpenFields x = Village.ofThreeStrips();
        for (int strip : new int[] {-1, 3, 60, Integer.MIN_VALUE, Integer.MAX_VALUE}) {
            Check.is("strip " + strip, x.land(strip, 0), -9);
        }
        for (int what : new int[] {-1, 10, Integer.MIN_VALUE, Integer.MAX_VALUE}) {
            Check.is("what " + what, x.land(2, what), -9);
        }
        Check.is("the last strip, the least what", x.land(2, 0), 2);
        Check.is("the last strip, the greatest what", x.land(2, 9), -1);
    }

    private static void landWithoutCrop() {
        Check.sentence("6 GROWTH (-1: no CROP), 7 LATE (-1)");
        OpenFields x = Village.ofThreeStrips();
        Check.is("no GROWTH", x.land(0, 6), -1);
        Check.is("no LATE", x.land(0, 7), -1);
        x.week(3);
        x.sow(0);
        Check.is("GROWTH of 0", x.land(0, 6), 0);
        Check.is("LATE", x.land(0, 7), 1);
        x.week(8);
        x.reap(0);
        Check.is("reaped: no GROWTH", x.land(0, 6), -1);
        Check.is("reaped: no LATE", x.land(0, 7), -1);
        x.sow(1);
        Village.until(x, 20);
        Check.is("lost: no GROWTH", x.land(1, 6), -1);
        Check.is("lost: no LATE", x.land(1, 7), -1);
    }

    private static void landOpen() {
        Check.sentence("8 OPEN (1, 0)");
        OpenFields x = Village.ofThreeStrips();
        String[] texts = {"0", "1", "2", "0-1", "999", "256*256*256*256", "256*256*256*128"};
        int[] due = {0, 1, 1, 1, 1, 0, 1};
        for (int i = 0; i < texts.length; i++) {
            Check.enact(x, 0, texts[i]);
            Check.is(texts[i], x.land(0, 8), due[i]);
        }
    }

    private static void landWouldBear() {
        Check.sentence("9 what it would bear if it were REAPED now, whenever SOWN (-1)");
        OpenFields x = Village.ofThreeStrips();
        Check.is("no crop", x.land(0, 9), -1);
        x.sow(0);
        Check.is("sown right now", x.land(0, 9), 7);
        x.week(7);
        Check.is("too early to reap", x.reap(0), STATE);
        Check.is("7 weeks", x.land(0, 9), 5 + 2 + 35 / 8);
        x.week(1);
        int would = x.land(0, 9);
        Check.is("8 weeks", would, 5 + 2 + 40 / 8);
        Check.is("what it bears", x.reap(0), would);
    }

    private static void holdUnknown() {
        Check.sentence("8 PIECES, 9 all measures it REAPED. -9.");
        Check.is("no house at all", new OpenFields().hold(0, 0), -9);
        OpenFields x = Village.ofThreeStrips();
        for (int house : new int[] {-1, 1, 12, Integer.MIN_VALUE, Integer.MAX_VALUE}) {
            Check.is("house " + house, x.hold(house, 0), -9);
        }
        for (int what : new int[] {-1, 10, Integer.MIN_VALUE, Integer.MAX_VALUE}) {
            Check.is("what " + what, x.hold(0, what), -9);
        }
        Check.is("the least what", x.hold(0, 0), 100);
        Check.is("the greatest what", x.hold(0, 9), 0);
    }

    private static void holdOfNothing() {
        Check.sentence("5 how many STRIPS, 6 HELD, 7 RIGHT, 8 PIECES");
        OpenFields x = Village.ofHouses(2, 0);
        x.strip(0, 9, 0);
        for (int what = 5; what <= 8; what++) {
            Check.is("a house without strips: " + what, x.hold(1, what), 0);
        }
        int[] due = {1, 32, 32, 1};
        for (int what = 5; what <= 8; what++) {
            Check.is("a house with one: " + what, x.hold(0, what), due[what - 5]);
        }
    }

    private static void hunger() {
        Check.sentence("How many WEEKS more a HOUSE can eat from its BARN; -9: NONE");
        int[][] barnNeedWeeks = {
            {0, 1, 0}, {1, 1, 1}, {8, 9, 0}, {9, 9, 1}, {17, 9, 1}, {18, 9, 2}, {10000, 1, 10000}, {10000, 9, 1111},
        };
        OpenFields x = new OpenFields();
        Check.is("no house at all", x.hunger(0), -9);
        for (int i = 0; i < barnNeedWeeks.length; i++) {
            x.house(barnNeedWeeks[i][0], barnNeedWeeks[i][1]);
            Check.is("barn " + barnNeedWeeks[i][0], x.hunger(i), barnNeedWeeks[i][2]);
        }
        for (int house : new int[] {-1, 8, 12, Integer.MIN_VALUE, Integer.MAX_VALUE}) {
            Check.is("house " + house, x.hunger(house), -9);
        }
    }

    private static void hungerWithoutNeed() {
        Check.sentence("100000: its NEED is 0");
        OpenFields x = new OpenFields();
        x.house(0, 0);
        x.house(10000, 0);
        Check.is("a bare barn", x.hunger(0), 100000);
        Check.is("a full barn", x.hunger(1), 100000);
    }
}
