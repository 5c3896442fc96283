/** Promises 19 to 23: apart, court, swap, better and fewest. */
public final class ExchangeTest {
    public static void main(String[] args) {
        apart();
        court();
        swap();
        swapMayNot();
        swapCountsForLaws();
        pieces();
        better();
        betterTakesTheFirst();
        betterLeavesCrops();
        fewest();
        fewestWithinApart();
        fewestCountsWhatIsThere();
        Check.end();
    }

    private static OpenFields village(int houses, String owners, String soils, int field) {
        OpenFields x = new OpenFields();
        for (int i = 0; i < houses; i++) {
            x.house(50, 0);
        }
        for (int i = 0; i < owners.length(); i++) {
            x.strip(field, soils.charAt(i) - '0', owners.charAt(i) - '0');
        }
        return x;
    }

    private static void apart() {
        OpenFields x = new OpenFields();
        Check.is("below 0", x.apart(-1), OpenFields.NONE);
        Check.is("above 60", x.apart(61), OpenFields.NONE);
        Check.is("at first", x.apart(0), 3);
        Check.is("0", x.apart(60), 0);
        Check.is("60", x.apart(7), 60);
    }

    private static void court() {
        OpenFields x = village(4, "012", "555", 0);
        Check.is("nothing moved", x.court(), 0);
        x = village(4, "012", "565", 0);
        x.swap(0, 1);
        Check.is("held", x.hold(0, 6), 23);
        Check.is("right", x.hold(0, 7), 20);
        Check.is("two", x.court(), 2);
        Check.is("right now", x.hold(0, 7), 23);
        Check.is("right of the other", x.hold(1, 7), 20);
        Check.is("none more", x.court(), 0);
    }

    private static void swap() {
        OpenFields x = village(3, "0110", "5555", 0);
        Check.is("below 0", x.swap(-1, 0), OpenFields.NONE);
        Check.is("not there", x.swap(0, 4), OpenFields.NONE);
        Check.is("not there either", x.swap(4, 0), OpenFields.NONE);
        Check.is("itself", x.swap(0, 0), OpenFields.NONE);
        Check.is("one house's", x.swap(0, 3), OpenFields.NONE);
        Check.is("two pieces", x.swap(2, 3), 4);
        Check.is("house of the one", x.land(2, 2), 0);
        Check.is("house of the other", x.land(3, 2), 1);
        Check.is("back", x.swap(3, 2), 3);
        Check.is("as long as can be", x.swap(0, 2), 2);
        x.sow(0);
        Check.is("one has a crop", x.swap(0, 2), OpenFields.STATE);
        Check.is("the other has one", x.swap(2, 0), OpenFields.STATE);
        Check.is("NONE ahead of STATE", x.swap(0, 1), OpenFields.NONE);
        Check.is("refused", x.land(0, 2), 1);
        Check.is("of several fields", village(2, "01", "55", 2).swap(0, 1), 2);
    }

    private static void swapMayNot() {
        OpenFields x = village(2, "01", "57", 0);
        Check.is("six apart", x.swap(0, 1), OpenFields.STATE);
        Check.is("refused", x.land(0, 2), 0);
        x.apart(5);
        Check.is("still", x.swap(0, 1), OpenFields.STATE);
        x.apart(6);
        Check.is("it may", x.swap(0, 1), 2);
        x.apart(0);
        Check.is("back to what is right", x.swap(0, 1), 2);

        x = village(3, "012", "543", 0);
        Check.is("three less", x.swap(0, 1), 3);
        Check.is("three less again is six off from right", x.swap(1, 2), OpenFields.STATE);
        Check.is("the other house is too far off", x.swap(0, 2), OpenFields.STATE);
        Check.is("refused", x.hold(0, 6), 17);
    }

    private static void swapCountsForLaws() {
        OpenFields x = village(2, "001", "555", 0);
        x.swap(0, 2);
        Check.is("as many strips", x.hold(0, 5), 2);
        Check.enact(x, 0, "h*10+n");
        Check.is("OPEN is for the new house", x.law(0, 0, 0), 11);
        x.beasts(0, 1);
        Check.enact(x, 0, "0");
        Check.is("a trespass on what was its own", x.stray(0, 0), 1);
        Check.is("its own now", x.stray(0, 2), -6);
        x.sow(2);
        Check.is("its barn pays", x.hold(0, 0), 48);
    }

    private static void pieces() {
        OpenFields x = new OpenFields();
        x.house(9, 0);
        x.house(9, 0);
        x.strip(0, 5, 0);
        x.strip(1, 5, 0);
        x.strip(0, 5, 0);
        Check.is("a strip of another field is not between them", x.count(6), 2);
        x.strip(0, 5, 1);
        x.strip(0, 5, 0);
        x.strip(1, 5, 0);
        x.strip(2, 5, 0);
        Check.is("in all", x.count(6), 5);
        Check.is("of the one", x.hold(0, 8), 4);
        Check.is("of the other", x.hold(1, 8), 1);
    }

    private static void better() {
        OpenFields x = village(2, "0101", "5555", 0);
        Check.is("0101, 1001, 0011", x.better(), 2);
        Check.is("two pieces", x.count(6), 2);
        Check.is("none more", x.better(), 0);
        x = village(2, "0101", "5959", 0);
        Check.is("it may not", x.better(), 0);
        Check.is("four pieces", x.count(6), 4);
        x.apart(12);
        Check.is("it may now", x.better(), 2);
        Check.is("none without strips", new OpenFields().better(), 0);
        x = village(3, "012012012012", "555555555555", 0);
        Check.is("several", x.better(), 8);
        Check.is("what is left", x.count(6), 3);
    }

    private static void betterTakesTheFirst() {
        OpenFields x = village(2, "0101", "5555", 1);
        x.better();
        owners("0101, 1001, 0011", x, "0011");
        x = village(3, "01201", "55555", 1);
        Check.is("01201, 21001, 11002", x.better(), 2);
        owners("01201, 21001, 11002", x, "11002");
        x = village(3, "01120", "55555", 1);
        Check.is("the lesser strip least: 01120, 21100", x.better(), 1);
        owners("01120, 21100", x, "21100");
    }

    private static void owners(String what, OpenFields x, String due) {
        for (int i = 0; i < due.length(); i++) {
            Check.is(what + ": house of strip " + i, x.land(i, 2), due.charAt(i) - '0');
        }
    }

    private static void betterLeavesCrops() {
        OpenFields x = village(2, "0101", "5555", 0);
        x.sow(0);
        Check.is("another one is found", x.better(), 1);
        Check.is("the crop's house", x.land(0, 2), 0);
        x = village(2, "0101", "5555", 0);
        x.sow(0);
        x.sow(3);
        Check.is("the strips between", x.better(), 1);
        x = village(2, "0101", "5555", 0);
        x.sow(0);
        x.sow(2);
        Check.is("one house all sown", x.better(), 0);
    }

    private static void fewest() {
        OpenFields x = village(3, "01201201", "55555555", 0);
        Check.is("below 0", x.fewest(-1), OpenFields.NONE);
        Check.is("field 3", x.fewest(3), OpenFields.NONE);
        Check.is("three houses", x.fewest(0), 3);
        Check.is("nothing moved", x.count(6), 8);
        Check.is("an empty field", x.fewest(1), 0);
        x.strip(0, 5, 2);
        Check.is("nine strips", x.fewest(0), OpenFields.FULL);
        Check.is("eight houses", village(8, "01234567", "12345678", 2).fewest(2), 8);
        Check.is("one house", village(1, "00000000", "12345678", 2).fewest(2), 1);
        Check.is("one strip", village(1, "0", "1", 2).fewest(2), 1);
        x = village(2, "0101", "5555", 0);
        x.sow(0);
        x.sow(1);
        Check.is("crops don't count", x.fewest(0), 2);
    }

    private static void fewestWithinApart() {
        OpenFields x = village(2, "0101", "1919", 0);
        Check.is("no way but this one", x.fewest(0), 4);
        x.apart(23);
        Check.is("24 are more", x.fewest(0), 4);
        x.apart(24);
        Check.is("24 apart", x.fewest(0), 2);
        x = village(2, "0110", "1991", 0);
        x.strip(1, 9, 0);
        Check.is("held of all fields", x.fewest(0), 3);
        x = village(2, "0101", "5577", 0);
        Check.is("0110: each one of 5 and one of 7", x.fewest(0), 3);
        x.apart(6);
        Check.is("0011: six apart", x.fewest(0), 2);
    }

    private static void fewestCountsWhatIsThere() {
        OpenFields x = village(2, "0101", "5656", 0);
        x.apart(9);
        x.swap(0, 1);
        x.apart(0);
        Check.is("off from right", x.hold(0, 6) - x.hold(0, 7), 3);
        Check.is("there even so", x.fewest(0), 3);
        x = village(2, "0011", "5678", 0);
        x.apart(60);
        x.swap(1, 2);
        x.swap(0, 3);
        x.swap(1, 2);
        x.swap(0, 3);
        x.apart(0);
        Check.is("as it was", x.fewest(0), 2);
        x = village(2, "0101", "1289", 0);
        x.apart(60);
        x.better();
        x.apart(0);
        Check.is("two pieces that are not fair", x.fewest(0), 2);
        Check.is("asked again", x.fewest(0), 2);
    }
}
