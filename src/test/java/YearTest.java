/** Promises 6 to 11: to sow, to reap, weeks, land, hold and hunger. */
public final class YearTest {
    public static void main(String[] args) {
        sowWinter();
        sowSpring();
        sowByTurns();
        sowOrder();
        reap();
        reapRest();
        reapNothing();
        reapAcrossHouses();
        weekBounds();
        weekGrowth();
        weekGrass();
        herdChoice();
        herdEachWeek();
        herdHouses();
        herdAndLaw();
        eating();
        newYear();
        land();
        hold();
        hunger();
        Check.end();
    }

    private static OpenFields village() {
        OpenFields x = new OpenFields();
        x.house(100, 0);
        x.strip(0, 5, 0);
        x.strip(1, 5, 0);
        x.strip(2, 5, 0);
        return x;
    }

    private static void sowWinter() {
        int[] late = {0, 0, 0, 1, 2, 3};
        for (int week = 0; week < late.length; week++) {
            OpenFields x = village();
            if (week > 0) {
                x.week(week);
            }
            Check.is("winter, week " + week, x.sow(0), late[week]);
            Check.is("late", x.land(0, 7), late[week]);
            Check.is("growth", x.land(0, 6), 0);
            Check.is("grass", x.land(0, 3), 0);
            Check.is("one measure", x.hold(0, 0), 99);
        }
        OpenFields last = village();
        last.week(19);
        Check.is("winter, week 19", last.sow(0), 17);
    }

    private static void sowSpring() {
        for (int week = 1; week < 5; week++) {
            OpenFields x = village();
            x.week(week);
            Check.is("spring, week " + week, x.sow(1), OpenFields.STATE);
            Check.is("nothing paid", x.hold(0, 0), 100);
        }
        for (int week = 5; week < 20; week++) {
            OpenFields x = village();
            x.week(week);
            Check.is("spring, week " + week, x.sow(1), Math.max(0, week - 7));
        }
    }

    private static void sowByTurns() {
        int[][] due = {{0, 0, -3}, {0, -3, 0}, {-3, 0, 0}, {0, 0, -3}};
        for (int year = 0; year < 4; year++) {
            for (int field = 0; field < 3; field++) {
                OpenFields x = village();
                for (int i = 0; i < year; i++) {
                    x.week(20);
                }
                int winter = (3 - year % 3) % 3;
                int want = due[year][field] < 0 ? OpenFields.STATE : field == winter ? 3 : 0;
                x.week(5);
                Check.is("year " + year + " field " + field, x.sow(field), want);
            }
        }
    }

    private static void sowOrder() {
        OpenFields x = new OpenFields();
        Check.is("no strip", x.sow(0), OpenFields.NONE);
        x.house(1, 0);
        x.strip(0, 5, 0);
        x.strip(0, 5, 0);
        x.strip(2, 5, 0);
        Check.is("below 0", x.sow(-1), OpenFields.NONE);
        Check.is("not there", x.sow(3), OpenFields.NONE);
        Check.is("the last measure", x.sow(0), 0);
        Check.is("nothing left", x.sow(1), OpenFields.EMPTY);
        Check.is("refused", x.land(1, 6), -1);
        Check.is("grass stays", x.land(1, 3), 3);
        Check.is("STATE ahead of EMPTY: crop", x.sow(0), OpenFields.STATE);
        Check.is("STATE ahead of EMPTY: still", x.sow(2), OpenFields.STATE);
        x.week(8);
        Check.is("reaped", x.reap(0), 12);
        Check.is("sown in this year already", x.sow(0), OpenFields.STATE);
        x.week(12);
        x.week(5);
        Check.is("next year: spring is (0 + 1) % 3", x.sow(0), 0);
    }

    private static void reap() {
        OpenFields x = village();
        Check.is("below 0", x.reap(-1), OpenFields.NONE);
        Check.is("not there", x.reap(3), OpenFields.NONE);
        Check.is("no crop", x.reap(0), OpenFields.STATE);
        x.week(3);
        x.sow(0);
        x.week(7);
        Check.is("seven weeks", x.reap(0), OpenFields.STATE);
        Check.is("would bear: 5 + 2 + 35 / 8 - 1", x.land(0, 9), 10);
        x.week(1);
        Check.is("eight weeks: 5 + 2 + 40 / 8 - 1", x.reap(0), 11);
        Check.is("barn", x.hold(0, 0), 110);
        Check.is("all it reaped", x.hold(0, 9), 11);
        Check.is("rest", x.land(0, 5), 0);
        Check.is("grass", x.land(0, 3), 2);
        Check.is("growth", x.land(0, 6), -1);
        Check.is("late", x.land(0, 7), -1);
        Check.is("bears", x.land(0, 9), -1);
        Check.is("gone", x.reap(0), OpenFields.STATE);
        Check.is("nothing lost", x.count(5), 0);
    }

    private static void reapRest() {
        // Field 0 is WINTER in years 0, 3, 6: it has rested for 1 + 3 and 1 + 6 years then.
        for (int years = 0; years <= 12; years += 3) {
            OpenFields x = village();
            for (int i = 0; i < years; i++) {
                x.week(20);
            }
            Check.is("rest", x.land(0, 5), Math.min(9, 1 + years));
            x.sow(0);
            Check.is("rest bears 6 at most", x.land(0, 9), 5 + 2 * Math.min(3, 1 + years));
        }
        OpenFields x = village();
        x.week(20);
        x.week(5);
        x.sow(0);
        Check.is("rest of 2", x.land(0, 9), 5 + 4);
    }

    private static void reapNothing() {
        OpenFields x = new OpenFields();
        x.house(5, 0);
        x.strip(0, 1, 0);
        for (int week = 0; week < 20; week++) {
            x.rain(week, 0);
        }
        x.week(11);
        Check.is("very late", x.sow(0), 9);
        Check.is("not below 0", x.land(0, 9), 0);
        x.week(8);
        Check.is("nothing", x.reap(0), 0);
        Check.is("barn", x.hold(0, 0), 4);
    }

    private static void reapAcrossHouses() {
        OpenFields x = new OpenFields();
        x.house(5, 0);
        x.house(5, 0);
        x.strip(2, 5, 0);
        x.strip(0, 9, 1);
        x.beasts(0, 7);
        x.week(3);
        Check.is("dung of the pasture", x.land(0, 4), 9);
        x.week(17);
        x.week(5);
        x.sow(1);
        Check.is("field 2 is WINTER in year 1", x.sow(0), 3);
        x.week(8);
        Check.is("5 + 9 / 2 + 2 * 2 + 40 / 8 - 3", x.reap(0), 15);
        Check.is("dung is halved", x.land(0, 4), 4);
        Check.is("its house has it", x.hold(0, 0), 5 - 1 + 15);
        Check.is("the other has not", x.hold(1, 0), 4);
    }

    private static void weekBounds() {
        OpenFields x = new OpenFields();
        Check.is("none", x.week(0), OpenFields.NONE);
        Check.is("below 0", x.week(-1), OpenFields.NONE);
        Check.is("above 40", x.week(41), OpenFields.NONE);
        Check.is("the least int", x.week(Integer.MIN_VALUE), OpenFields.NONE);
        Check.is("the greatest int", x.week(Integer.MAX_VALUE), OpenFields.NONE);
        for (int i = 1; i <= 49; i++) {
            Check.is("forty", x.week(40), 40 * i);
        }
        Check.is("one more", x.week(1), 1961);
        Check.is("beyond 2000", x.week(40), OpenFields.NONE);
        Check.is("refused", x.count(2), 1961);
        Check.is("2000", x.week(39), 2000);
        Check.is("2001", x.week(1), OpenFields.NONE);
    }

    private static void weekGrowth() {
        int[] due = {0, 1, 2, 3, 4, 5, 4, 3, 2, 1};
        for (int r = 0; r <= 9; r++) {
            OpenFields x = village();
            x.rain(0, r);
            x.sow(0);
            x.week(1);
            Check.is("growth in rain " + r, x.land(0, 6), due[r]);
            Check.is("no grass under a crop", x.land(0, 3), 0);
        }
    }

    private static void weekGrass() {
        int[] more = {0, 1, 1, 1, 2, 2, 2, 3, 3, 3};
        for (int r = 0; r <= 9; r++) {
            OpenFields x = village();
            x.rain(1, r);
            x.rain(0, 0);
            x.week(2);
            Check.is("grass in rain " + r, x.land(0, 3), 3 + more[r]);
            x.week(18);
            Check.is("nine at most", x.land(0, 3), 9);
        }
    }

    private static void herdChoice() {
        OpenFields x = new OpenFields();
        x.house(9, 0);
        for (int i = 0; i < 3; i++) {
            x.strip(2, 5, 0);
        }
        x.rain(0, 0);
        x.rain(1, 0);
        x.rain(2, 0);
        x.beasts(0, 1);
        x.stray(0, 0);
        x.week(1);
        Check.is("not the one with less", x.land(0, 3), 2);
        Check.is("the least of the most", x.land(1, 3), 2);
        Check.is("dung", x.land(1, 4), 1);
        Check.is("not the later one", x.land(2, 3), 3);
        x.beasts(0, 9);
        x.week(1);
        Check.is("two are hungry", x.hold(0, 3), 2);
        Check.is("all is eaten", x.land(0, 3) + x.land(1, 3) + x.land(2, 3), 0);
        Check.is("dung of all", x.land(0, 4) + x.land(1, 4) + x.land(2, 4), 8);
        x.week(1);
        Check.is("all are hungry", x.hold(0, 3), 11);
        x.week(17);
        Check.is("nine dung at most", x.land(0, 4), 9);
    }

    private static void herdEachWeek() {
        OpenFields x = new OpenFields();
        x.house(9, 0);
        x.strip(2, 5, 0);
        x.strip(2, 5, 0);
        x.beasts(0, 1);
        x.week(3);
        Check.is("first, second, first", x.land(0, 4) * 10 + x.land(1, 4), 21);
        x.week(3);
        Check.is("the first of those with nine, each week", x.land(0, 4) * 10 + x.land(1, 4), 51);
    }

    private static void herdHouses() {
        OpenFields x = new OpenFields();
        x.house(9, 0);
        x.house(9, 0);
        x.house(9, 0);
        x.strip(2, 5, 2);
        x.strip(0, 5, 0);
        x.rain(0, 0);
        x.beasts(0, 2);
        x.beasts(1, 2);
        x.beasts(2, 1);
        x.week(1);
        Check.is("the first house is fed", x.hold(0, 3), 0);
        Check.is("the second in part", x.hold(1, 3), 1);
        Check.is("the third is not", x.hold(2, 3), 1);
        Check.is("what is not open keeps its grass", x.land(1, 3), 3);
    }

    private static void herdAndLaw() {
        OpenFields x = new OpenFields();
        x.house(9, 0);
        x.strip(0, 5, 0);
        x.strip(0, 5, 0);
        x.strip(0, 5, 0);
        for (int i = 0; i < 20; i++) {
            x.rain(i, 0);
        }
        Check.enact(x, 0, "g>2|d");
        x.stray(0, 2);
        x.beasts(0, 1);
        x.stray(0, 2);
        x.sow(1);
        x.beasts(0, 4);
        x.week(1);
        Check.is("a strip that opens by its dung is eaten bare", x.land(0, 3), 0);
        Check.is("the crop is not eaten", x.land(1, 4), 0);
        Check.is("the closed one is not", x.land(2, 3), 2);
        Check.is("one is hungry", x.hold(0, 3), 1);
        Check.enact(x, 0, "g>1&f=0");
        x.beasts(0, 2);
        x.week(1);
        Check.is("a strip that closes while it is eaten", x.land(2, 3), 1);
        Check.is("the second beast is hungry", x.hold(0, 3), 2);
    }

    private static void eating() {
        OpenFields x = new OpenFields();
        x.house(10, 4);
        x.house(0, 9);
        x.house(3, 0);
        x.week(2);
        Check.is("barn", x.hold(0, 0), 2);
        Check.is("no lack", x.hold(0, 4), 0);
        x.week(1);
        Check.is("bare", x.hold(0, 0), 0);
        Check.is("lack of the rest", x.hold(0, 4), 2);
        x.week(1);
        Check.is("lack of all", x.hold(0, 4), 6);
        Check.is("lack from the start", x.hold(1, 4), 36);
        Check.is("no need", x.hold(2, 0), 3);
        Check.is("in all barns", x.count(7), 3);
    }

    private static void newYear() {
        OpenFields x = village();
        x.week(10);
        x.sow(0);
        x.sow(1);
        x.week(9);
        Check.is("week 19: crops stand", x.land(0, 6), 45);
        Check.is("none lost", x.count(5), 0);
        x.reap(1);
        x.week(1);
        Check.is("one lost", x.count(5), 1);
        Check.is("crop gone", x.land(0, 6), -1);
        Check.is("sown: no rest more", x.land(0, 5), 1);
        Check.is("reaped: rest 0", x.land(1, 5), 0);
        Check.is("not sown: one more", x.land(2, 5), 2);
        Check.is("no grass by a lost crop", x.land(0, 3), 0);
        x.week(10);
        x.sow(0);
        Check.is("a crop grows from 0 again", x.land(0, 6), 0);
        x.week(10);
        Check.is("lost again", x.count(5), 2);
        x.week(20);
        Check.is("one more, of two years", x.land(0, 5), 2);
        Check.is("reaped, two years later", x.land(1, 5), 2);
    }

    private static void land() {
        OpenFields x = village();
        Check.is("below 0", x.land(-1, 0), -9);
        Check.is("not there", x.land(3, 0), -9);
        Check.is("what below 0", x.land(0, -1), -9);
        Check.is("what above 9", x.land(0, 10), -9);
        for (int strip = 0; strip < 3; strip++) {
            Check.is("field", x.land(strip, 0), strip);
            Check.is("open is still", x.land(strip, 8), strip == 2 ? 1 : 0);
        }
        Check.enact(x, 0, "7*f");
        Check.is("not open", x.land(0, 8), 0);
        Check.is("open gives 1", x.land(2, 8), 1);
        Check.enact(x, 0, "0-1");
        Check.is("below 0 is open", x.land(0, 8), 1);
        x.week(4);
        x.sow(0);
        x.week(1);
        int[] due = {0, 5, 0, 0, 0, 1, 5, 2, 1, 5};
        for (int what = 0; what < due.length; what++) {
            Check.is("land " + what, x.land(0, what), due[what]);
        }
    }

    private static void hold() {
        OpenFields x = new OpenFields();
        Check.is("no house", x.hold(0, 0), -9);
        x.house(50, 2);
        x.house(30, 3);
        x.strip(0, 1, 0);
        x.strip(0, 9, 0);
        x.strip(0, 4, 1);
        x.strip(0, 2, 0);
        x.strip(1, 3, 0);
        x.beasts(0, 2);
        x.sow(0);
        x.week(9);
        x.reap(0);
        x.week(11);
        int[] due = {50 - 1 - 40 + 8, 2, 2, 40, 0, 4, 8 + 32 + 11 + 14, 65, 3, 8};
        for (int what = 0; what < due.length; what++) {
            Check.is("hold " + what, x.hold(0, what), due[what]);
        }
        Check.is("lack of the other", x.hold(1, 4), 30);
        Check.is("pieces of the other", x.hold(1, 8), 1);
        Check.is("house below 0", x.hold(-1, 0), -9);
        Check.is("house not there", x.hold(2, 0), -9);
        Check.is("what below 0", x.hold(0, -1), -9);
        Check.is("what above 9", x.hold(0, 10), -9);
    }

    private static void hunger() {
        OpenFields x = new OpenFields();
        Check.is("no house", x.hunger(0), -9);
        x.house(10, 3);
        x.house(9, 3);
        x.house(2, 3);
        x.house(0, 0);
        Check.is("the rest away", x.hunger(0), 3);
        Check.is("just enough", x.hunger(1), 3);
        Check.is("too little", x.hunger(2), 0);
        Check.is("no need", x.hunger(3), 100000);
        Check.is("below 0", x.hunger(-1), -9);
        Check.is("not there", x.hunger(4), -9);
        x.week(1);
        Check.is("a week on", x.hunger(0), 2);
    }
}
