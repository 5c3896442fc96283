/** The edges that section 5 and promises 19 to 23 name, a test for each sentence. */
public final class ExchangeEdgeTest {
    private static final int NONE = OpenFields.NONE;
    private static final int FULL = OpenFields.FULL;
    private static final int STATE = OpenFields.STATE;

    public static void main(String[] args) {
        next();
        pieceAsLongAsCanBe();
        piecesOfNothing();
        worth();
        held();
        rightWhenAStripIsMade();
        rightAtACourt();
        exchangeOfTwoHouses();
        exchangeWithoutCrops();
        exchangeAcrossFields();
        mayBeAtApart();
        eitherHouse();
        apartRange();
        apartLetsMore();
        betterFewerOnly();
        betterTheLesserLeast();
        betterThenTheOther();
        betterAsLongAsThereIsOne();
        betterOfNothing();
        betterMayBe();
        fewestOfEight();
        fewestOfNothing();
        fewestAsManyAsNow();
        fewestWithinApart();
        fewestThatIsThere();
        fewestChangesNothing();
        courtCounts();
        swapNone();
        swapAnswer();
        fewestNone();
        Check.end();
    }

    private static void next() {
        Check.sentence("STRIPS of one FIELD are NEXT to each other if none of it is between them by number.");
        OpenFields x = Village.ofHouses(2, 0);
        x.strip(0, 5, 0);
        x.strip(1, 5, 1);
        x.strip(2, 5, 1);
        x.strip(0, 5, 0);
        Check.is("strips of other fields are not between", x.hold(0, 8), 1);
        Check.is("strips of two fields are not next", x.hold(1, 8), 2);
        x.strip(0, 5, 1);
        x.strip(0, 5, 0);
        Check.is("one of the field is between", x.hold(0, 8), 2);
        Check.is("in all", x.count(6), 5);
    }

    private static void pieceAsLongAsCanBe() {
        Check.sentence("A PIECE is a row of such of one HOUSE, each NEXT to the one ahead, as long as can be.");
        OpenFields x = Village.ofHouses(1, 0);
        for (int i = 0; i < 60; i++) {
            x.strip(0, 5, 0);
            Check.is("one row of " + (i + 1), x.count(6), 1);
        }
        Check.is("of the house", x.hold(0, 8), 1);
        OpenFields y = Village.ofHouses(2, 0);
        for (int i = 0; i < 60; i++) {
            y.strip(0, 5, i % 2);
        }
        Check.is("sixty rows of 1", y.count(6), 60);
        Check.is("thirty of the one", y.hold(0, 8), 30);
        Check.is("thirty of the other", y.hold(1, 8), 30);
        OpenFields z = Village.ofField(1, 3, "001110200", "555555555");
        Check.is("00 111 0 2 00", z.count(6), 5);
        Check.is("00, 0 and 00", z.hold(0, 8), 3);
    }

    private static void piecesOfNothing() {
        Check.sentence("A PIECE is a row of such of one HOUSE");
        OpenFields x = new OpenFields();
        Check.is("no strips", x.count(6), 0);
        x.house(0, 0);
        Check.is("a house without strips", x.hold(0, 8), 0);
        x.strip(0, 5, 0);
        Check.is("a row of one", x.hold(0, 8), 1);
        Check.is("in all", x.count(6), 1);
    }

    private static void worth() {
        Check.sentence("WORTH of a STRIP is 3 times SOIL, and 5");
        for (int soil = 1; soil <= 9; soil++) {
            OpenFields x = Village.ofField(0, 1, "0", String.valueOf(soil));
            Check.is("soil " + soil, x.hold(0, 6), 3 * soil + 5);
        }
    }

    private static void held() {
        Check.sentence("HELD of a HOUSE is the sum of WORTHS of its STRIPS");
        OpenFields x = Village.ofHouses(1, 0);
        Check.is("none", x.hold(0, 6), 0);
        x.strip(0, 1, 0);
        Check.is("one", x.hold(0, 6), 8);
        x.strip(2, 9, 0);
        Check.is("two, of two fields", x.hold(0, 6), 40);
        for (int i = 2; i < 60; i++) {
            x.strip(1, 9, 0);
        }
        Check.is("sixty", x.hold(0, 6), 40 + 58 * 32);
    }

    private static void rightWhenAStripIsMade() {
        Check.sentence("RIGHT of it what that was when the latest STRIP was made");
        OpenFields x = Village.ofField(0, 3, "01", "56");
        Check.is("swapped", x.swap(0, 1), 2);
        Check.is("RIGHT stays", x.hold(0, 7), 20);
        Check.is("a refused strip", x.strip(0, 10, 2), NONE);
        Check.is("RIGHT stays still", x.hold(0, 7), 20);
        x.strip(2, 1, 2);
        Check.is("a strip is made: of its house", x.hold(2, 7), 8);
        Check.is("of another house", x.hold(0, 7), 23);
        Check.is("and of the other", x.hold(1, 7), 20);
        x.house(0, 0);
        Check.is("of a house made since", x.hold(3, 7), 0);
    }

    private static void rightAtACourt() {
        Check.sentence("or at the latest court");
        OpenFields x = Village.ofField(0, 2, "01", "56");
        x.swap(0, 1);
        Check.is("ahead", x.hold(0, 7), 20);
        x.court();
        Check.is("the one", x.hold(0, 7), 23);
        Check.is("the other", x.hold(1, 7), 20);
        x.swap(0, 1);
        Check.is("it stays until the next", x.hold(0, 7), 23);
        x.court();
        Check.is("the next", x.hold(0, 7), 20);
    }

    private static void exchangeOfTwoHouses() {
        Check.sentence("EXCHANGE of two STRIPS without CROPS, of two HOUSES: these are changed over");
        OpenFields x = Village.ofField(0, 12, "0", "5");
        x.strip(0, 5, 11);
        Check.is("the first house and the last", x.swap(0, 1), 2);
        Check.is("house of the one", x.land(0, 2), 11);
        Check.is("house of the other", x.land(1, 2), 0);
        Check.is("soil stays", x.land(0, 1), 5);
        Check.is("one house's", Village.ofField(0, 1, "00", "55").swap(0, 1), NONE);
        Check.is("a strip with itself", x.swap(0, 0), NONE);
    }

    private static void exchangeWithoutCrops() {
        Check.sentence("EXCHANGE of two STRIPS without CROPS");
        OpenFields x = Village.ofField(0, 2, "0101", "5555");
        x.sow(0);
        Check.is("the first has one", x.swap(0, 1), STATE);
        Check.is("the second has one", x.swap(1, 0), STATE);
        Check.is("none has one", x.swap(1, 2), 2);
        x.week(8);
        x.reap(0);
        Check.is("reaped", x.swap(0, 2), 3);
    }

    private static void exchangeAcrossFields() {
        Check.sentence("EXCHANGE of two STRIPS without CROPS, of two HOUSES");
        OpenFields x = Village.ofHouses(2, 0);
        x.strip(0, 5, 0);
        x.strip(0, 5, 1);
        x.strip(1, 5, 0);
        x.strip(1, 5, 1);
        Check.is("of two fields", x.swap(0, 3), 2);
        Check.is("fields stay", x.land(0, 0) * 10 + x.land(3, 0), 1);
        Check.is("houses don't", x.land(0, 2) * 10 + x.land(3, 2), 10);
    }

    private static void mayBeAtApart() {
        Check.sentence("it MAY be if then HELD of either is at most APART (0 .. 60; 3 at first) off from its RIGHT");
        for (int soils = 0; soils <= 8; soils++) {
            for (int apart = Math.max(0, 3 * soils - 1); apart <= 3 * soils + 1; apart++) {
                OpenFields x = Village.ofField(0, 2, "01", "1" + (1 + soils));
                x.apart(apart);
                String what = 3 * soils + " off, APART " + apart;
                Check.is(what, x.swap(0, 1), 3 * soils <= apart ? 2 : STATE);
                Check.is("house", x.land(0, 2), 3 * soils <= apart ? 1 : 0);
                OpenFields y = Village.ofField(0, 2, "01", (1 + soils) + "1");
                y.apart(apart);
                Check.is(what + ", the other way", y.swap(0, 1), 3 * soils <= apart ? 2 : STATE);
            }
        }
    }

    private static void eitherHouse() {
        Check.sentence("if then HELD of either is at most APART (0 .. 60; 3 at first) off from its RIGHT");
        OpenFields x = Village.ofField(0, 3, "012", "543");
        x.swap(0, 1);
        Check.is("house 0 is 3 less", x.hold(0, 6) - x.hold(0, 7), -3);
        Check.is("house 1 is 3 more", x.hold(1, 6) - x.hold(1, 7), 3);
        Check.is("house 0 would be 6 less, house 2 3 more", x.swap(1, 2), STATE);
        Check.is("house 2 first", x.swap(2, 1), STATE);
        Check.is("house 1 would be 3 less, house 2 6 more", x.swap(0, 2), STATE);
        x.apart(6);
        Check.is("at 6", x.swap(1, 2), 3);
        x.apart(0);
        Check.is("back to RIGHT is not all", x.swap(0, 1), STATE);
    }

    private static void apartRange() {
        Check.sentence("APART (0 .. 60; 3 at first)");
        OpenFields x = new OpenFields();
        for (int v : new int[] {-1, 61, Integer.MIN_VALUE, Integer.MAX_VALUE}) {
            Check.is("apart " + v, x.apart(v), NONE);
        }
        Check.is("3 at first", x.apart(0), 3);
        Check.is("0", x.apart(60), 0);
        Check.is("60", x.apart(60), 60);
        Check.is("61 again", x.apart(61), NONE);
        Check.is("it stayed", x.apart(3), 60);
    }

    private static void apartLetsMore() {
        Check.sentence("at most APART (0 .. 60; 3 at first) off from its RIGHT");
        OpenFields x = Village.ofField(0, 2, "01", "56");
        Check.is("3 at first: 3 off", x.swap(0, 1), 2);
        x = Village.ofField(0, 2, "01", "57");
        Check.is("3 at first: 6 off", x.swap(0, 1), STATE);
        x = Village.ofField(0, 2, "000111", "111999");
        x.apart(60);
        Check.is("24 off", x.swap(0, 3), 3);
        Check.is("48 off", x.swap(1, 4), 3);
        Check.is("72 off", x.swap(2, 5), STATE);
        x.court();
        Check.is("24 off again", x.swap(2, 5), 2);
    }

    private static void betterFewerOnly() {
        Check.sentence("as long as there is an EXCHANGE that MAY be by which there are fewer PIECES in all");
        OpenFields x = Village.ofField(0, 2, "01", "55");
        Check.is("as many pieces are not fewer", x.better(), 0);
        Check.is("nothing moved", x.land(0, 2), 0);
        x = Village.ofField(0, 2, "0011", "5555");
        Check.is("more are not fewer", x.better(), 0);
        x = Village.ofField(0, 2, "010", "555");
        Check.is("010 and 100: one fewer", x.better(), 1);
        Check.is("pieces", x.count(6), 2);
        x = Village.ofField(0, 3, "0120", "5555");
        Check.is("0120: 2100", x.better(), 1);
        Check.that("2100", Village.owners(x, 4).equals("2100"));
    }

    private static void betterTheLesserLeast() {
        Check.sentence("the first one (the lesser STRIP least, then the other one) is made");
        OpenFields x = Village.ofField(0, 3, "0121", "5555");
        Check.is("0 and 3, not 1 and 2, nor 2 and 3", x.better(), 1);
        Check.that("1120", Village.owners(x, 4).equals("1120"));
        OpenFields y = Village.ofField(0, 3, "01120", "55555");
        Check.is("0 and 3, not 3 and 4", y.better(), 1);
        Check.that("21100", Village.owners(y, 5).equals("21100"));
        OpenFields z = Village.ofHouses(3, 0);
        for (int i = 0; i < 4; i++) {
            z.strip(0, 5, "0121".charAt(i) - '0');
            z.strip(1, 5, 2);
        }
        Check.is("with strips of another field between", z.better(), 1);
        Check.that("0 and 6", Village.owners(z, 8).equals("12122202"));
    }

    private static void betterThenTheOther() {
        Check.sentence("the first one (the lesser STRIP least, then the other one) is made");
        OpenFields x = Village.ofField(0, 3, "0102", "5555");
        Check.is("0 and 1, not 0 and 3", x.better(), 1);
        Check.that("1002", Village.owners(x, 4).equals("1002"));
        OpenFields y = Village.ofField(0, 2, "0101", "5555");
        Check.is("0 and 1, then 0 and 2; not 0 and 3", y.better(), 2);
        Check.that("0011", Village.owners(y, 4).equals("0011"));
    }

    private static void betterAsLongAsThereIsOne() {
        Check.sentence("BETTER: as long as there is an EXCHANGE that MAY be");
        OpenFields x = Village.ofHouses(2, 0);
        for (int i = 0; i < 60; i++) {
            x.strip(0, 5, i % 2);
        }
        int made = x.better();
        Check.that("many were made", made > 20);
        // What is left is a row between two of the other house, and no one exchange joins those.
        Check.is("three pieces are left of sixty", x.count(6), 3);
        Check.is("none more", x.better(), 0);
        Check.is("each has as many", x.hold(0, 5), 30);
    }

    private static void betterOfNothing() {
        Check.sentence("BETTER: how many EXCHANGES.");
        OpenFields x = new OpenFields();
        Check.is("nothing there", x.better(), 0);
        x.house(0, 0);
        Check.is("no strips", x.better(), 0);
        x.strip(0, 5, 0);
        Check.is("one strip", x.better(), 0);
        x.strip(1, 5, 0);
        Check.is("one house", x.better(), 0);
    }

    private static void betterMayBe() {
        Check.sentence("an EXCHANGE that MAY be by which there are fewer PIECES in all");
        OpenFields x = Village.ofField(0, 2, "010", "565");
        x.apart(2);
        Check.is("one too far off", x.better(), 0);
        x.apart(3);
        Check.is("at APART", x.better(), 1);
        OpenFields y = Village.ofField(0, 2, "0101", "5555");
        y.sow(0);
        y.sow(2);
        Check.is("crops stay", y.better(), 0);
        Check.is("four pieces", y.count(6), 4);
    }

    private static void fewestOfEight() {
        Check.sentence("FEWEST of a FIELD with at most 8 STRIPS");
        OpenFields x = Village.ofField(2, 2, "01010101", "55555555");
        Check.is("eight", x.fewest(2), 2);
        x.strip(1, 5, 0);
        Check.is("eight, and one in another field", x.fewest(2), 2);
        x.strip(2, 5, 0);
        Check.is("nine", x.fewest(2), FULL);
        Check.is("one", x.fewest(1), 1);
        for (int field = 0; field < 3; field++) {
            Check.is("eight of eight houses", Village.ofField(field, 8, "01234567", "55555555").fewest(field), 8);
            Check.is("eight of one house", Village.ofField(field, 1, "00000000", "55555555").fewest(field), 1);
        }
    }

    private static void fewestOfNothing() {
        Check.sentence("the fewest PIECES in it of all ways to give its STRIPS to its HOUSES");
        OpenFields x = new OpenFields();
        for (int field = 0; field < 3; field++) {
            Check.is("nothing there", x.fewest(field), 0);
        }
        x.house(0, 0);
        x.strip(0, 5, 0);
        Check.is("one strip", x.fewest(0), 1);
        Check.is("none in another field", x.fewest(1), 0);
    }

    private static void fewestAsManyAsNow() {
        Check.sentence("each as many as it has now");
        OpenFields x = Village.ofField(0, 3, "0120", "5555");
        x.apart(60);
        Check.is("three houses are three pieces", x.fewest(0), 3);
        OpenFields y = Village.ofField(0, 2, "0100", "5555");
        Check.is("two houses are two", y.fewest(0), 2);
        Check.is("one piece fewer than now", Village.ofField(0, 2, "0110", "5555").fewest(0), 2);
        OpenFields z = Village.ofField(0, 3, "01010", "55555");
        z.strip(1, 5, 2);
        Check.is("a house without strips in it is none of its houses", z.fewest(0), 2);
    }

    private static void fewestWithinApart() {
        Check.sentence("such that HELD of each is at most APART off from RIGHT");
        OpenFields x = Village.ofField(0, 2, "0101", "1919");
        x.apart(23);
        Check.is("24 off, APART 23", x.fewest(0), 4);
        x.apart(24);
        Check.is("24 off, APART 24", x.fewest(0), 2);
        OpenFields y = Village.ofField(0, 2, "0101", "5566");
        y.apart(2);
        Check.is("0110 keeps RIGHT", y.fewest(0), 3);
        y.apart(3);
        Check.is("0011 is 3 off", y.fewest(0), 2);
        OpenFields z = Village.ofField(0, 2, "0101", "5555");
        z.strip(1, 5, 0);
        z.strip(1, 6, 1);
        z.apart(3);
        z.swap(4, 5);
        z.apart(2);
        Check.is("by another field all ways are 3 off", z.fewest(0), 4);
        z.apart(3);
        Check.is("APART 3", z.fewest(0), 2);
    }

    private static void fewestThatIsThere() {
        Check.sentence("(the way that is there counts, even so)");
        OpenFields x = Village.ofField(0, 2, "0101", "5656");
        x.swap(1, 2);
        x.apart(0);
        Check.is("0011, as it was made worth", x.hold(0, 6) - x.hold(0, 7), 3);
        Check.is("3 off, APART 0", x.fewest(0), 2);
        OpenFields y = Village.ofField(0, 2, "010", "595");
        y.apart(12);
        y.swap(1, 2);
        y.apart(0);
        Check.is("001 is 12 off", y.hold(0, 6) - y.hold(0, 7), 12);
        Check.is("it counts, fewer than the fair 010", y.fewest(0), 2);
        Check.is("asked again", y.fewest(0), 2);
    }

    private static void fewestChangesNothing() {
        Check.sentence("FEWEST of a FIELD");
        OpenFields x = Village.ofField(0, 3, "01201201", "56565656");
        x.apart(60);
        Check.is("fewest", x.fewest(0), 3);
        Check.that("houses are as they were", Village.owners(x, 8).equals("01201201"));
        Check.is("pieces are as they were", x.count(6), 8);
        Check.is("held is as it was", x.hold(0, 6), x.hold(0, 7));
        Check.is("asked again", x.fewest(0), 3);
    }

    private static void courtCounts() {
        Check.sentence("RIGHT of each HOUSE becomes HELD: how many HOUSES got another one.");
        OpenFields x = new OpenFields();
        Check.is("no houses", x.court(), 0);
        x = Village.ofField(0, 4, "0123", "5665");
        Check.is("nothing moved", x.court(), 0);
        x.swap(0, 3);
        Check.is("moved, but worth the same", x.court(), 0);
        x.swap(0, 1);
        Check.is("two", x.court(), 2);
        Check.is("none any more", x.court(), 0);
        x.swap(0, 1);
        x.swap(2, 3);
        Check.is("four", x.court(), 4);
        x.swap(0, 1);
        x.swap(0, 1);
        Check.is("there and back", x.court(), 0);
    }

    private static void swapNone() {
        Check.sentence("NONE (also one HOUSE's); STATE: one has a CROP, or it MAY not be.");
        Check.is("nothing there", new OpenFields().swap(0, 0), NONE);
        OpenFields x = Village.ofField(0, 2, "001", "559");
        for (int strip : new int[] {-1, 3, 60, Integer.MIN_VALUE, Integer.MAX_VALUE}) {
            Check.is("first " + strip, x.swap(strip, 2), NONE);
            Check.is("second " + strip, x.swap(2, strip), NONE);
        }
        Check.is("it MAY not be", x.swap(0, 2), STATE);
        x.sow(0);
        Check.is("one HOUSE's, and one has a CROP", x.swap(0, 1), NONE);
        Check.is("itself, with a CROP", x.swap(0, 0), NONE);
        x.apart(60);
        Check.is("one has a CROP", x.swap(0, 2), STATE);
    }

    private static void swapAnswer() {
        Check.sentence("EXCHANGE: how many PIECES there are in all then.");
        OpenFields x = Village.ofField(0, 2, "0101", "5555");
        Check.is("1001", x.swap(0, 1), 3);
        Check.is("1100", x.swap(1, 3), 2);
        Check.is("1010", x.swap(1, 2), 4);
        x.strip(2, 5, 0);
        Check.is("of all fields", x.swap(0, 1), 4);
    }

    private static void fewestNone() {
        Check.sentence("FEWEST. NONE: no such FIELD; FULL: it has more than 8 STRIPS.");
        OpenFields x = Village.ofField(0, 1, "000000000", "555555555");
        for (int field : new int[] {-1, 3, Integer.MIN_VALUE, Integer.MAX_VALUE}) {
            Check.is("field " + field, x.fewest(field), NONE);
        }
        Check.is("nine strips", x.fewest(0), FULL);
        for (int i = 9; i < 60; i++) {
            x.strip(0, 5, 0);
        }
        Check.is("sixty strips", x.fewest(0), FULL);
        Check.is("no strips", x.fewest(1), 0);
    }
}
