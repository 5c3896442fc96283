/** The edges that section 3 and promises 12 to 16 name, a test for each sentence. */
public final class LawEdgeTest {
    private static final int NONE = OpenFields.NONE;
    private static final int FULL = OpenFields.FULL;
    private static final int NO_LAW = -2000000000;
    private static final String DIGITS = "0123456789";
    private static final String NAMES = "wyfscgdbnh";

    public static void main(String[] args) {
        threeKinds();
        openIfNot0();
        textsAtFirst();
        inForceFromTheWeekOn();
        inForceInTheLastWeek();
        laterOneTakesThePlace();
        earlierWeekTakesThePlace();
        whatIsInForceStays();
        sixtyBytes();
        sixtyBytesAreOneText();
        anyOrs();
        anyAnds();
        anyNots();
        oneComparison();
        sumsFromTheLeft();
        anyProducts();
        threeDigits();
        tenNames();
        noBlanks();
        twelveOpen();
        twelveOpenAtOnce();
        bytesThatGoOn();
        valuesWrap();
        comparisonsGive1Or0();
        notGives1Or0();
        andOrGive1Or0();
        bothSides();
        rangesOfNames();
        nameOfStill();
        namesOfStint();
        houseOfOpen();
        leastFault();
        endIsAFault();
        thirteenthIsAFault();
        feedNumber();
        feedLowestFirst();
        feedFull();
        makeFrom();
        makeEmpties();
        makeFault();
        clear();
        lawNone();
        lawMustBeThere();
        textPlaces();
        Check.end();
    }

    private static void threeKinds() {
        Check.sentence("BY-LAWS: of three KINDS");
        OpenFields x = Village.ofThreeStrips();
        for (int kind : new int[] {-1, 3, Integer.MIN_VALUE, Integer.MAX_VALUE}) {
            Check.feed(x, "1");
            Check.is("make of kind " + kind, x.make(kind, 0), NONE);
            Check.is("law of kind " + kind, x.law(kind, 0, 0), NO_LAW);
            Check.is("text of kind " + kind, x.text(kind, 0), NONE);
            x.clear();
        }
        for (int kind = 0; kind < 3; kind++) {
            Check.enact(x, kind, "1" + kind);
            Check.is("law of kind " + kind, x.law(kind, 0, 0), 10 + kind);
        }
        for (int kind = 0; kind < 3; kind++) {
            Check.is("each kind has its own", x.text(kind, 1), '0' + kind);
        }
    }

    private static void openIfNot0() {
        Check.sentence("a STRIP is OPEN if OPEN is not 0");
        OpenFields x = Village.ofHouses(2, 50);
        x.strip(0, 5, 0);
        x.strip(0, 5, 1);
        x.beasts(0, 1);
        String[] texts = {"0", "1", "2", "0-1", "256*256*256*256", "256*256*256*128"};
        int[] due = {1, -6, -6, -6, 1, -6};
        for (int i = 0; i < texts.length; i++) {
            Check.enact(x, 0, texts[i]);
            Check.is(texts[i], x.stray(0, 1), due[i]);
        }
    }

    private static void textsAtFirst() {
        Check.sentence("At first: \"s\", \"9\", \"1\".");
        OpenFields x = Village.ofThreeStrips();
        int[] due = {'s', '9', '1'};
        for (int kind = 0; kind < 3; kind++) {
            Check.is("text " + kind, x.text(kind, 0), due[kind]);
            Check.is("one byte", x.text(kind, 1), NONE);
        }
        Check.is("OPEN of WINTER", x.law(0, 0, 0), 0);
        Check.is("OPEN of SPRING", x.law(0, 0, 1), 0);
        Check.is("OPEN of STILL", x.law(0, 0, 2), 1);
        Check.is("STINT", x.law(1, 0, 0), 9);
        Check.is("FINE", x.law(2, 0, 0), 1);
        Check.is("the tape is empty", x.count(3), 0);
    }

    private static void inForceFromTheWeekOn() {
        Check.sentence("A TEXT that is made is in force from a told WEEK on");
        for (int kind = 0; kind < 3; kind++) {
            OpenFields x = Village.ofThreeStrips();
            x.week(3);
            Check.feed(x, "77");
            Check.is("made", x.make(kind, 5), 0);
            int before = x.law(kind, 0, 0);
            Check.that("not in this week", before != 77);
            x.week(1);
            Check.is("not in the week ahead of it", x.law(kind, 0, 0), before);
            Check.is("nor its text", x.text(kind, 1), NONE);
            x.week(1);
            Check.is("in its week", x.law(kind, 0, 0), 77);
            Check.is("and its text", x.text(kind, 1), '7');
            x.week(40);
            Check.is("later", x.law(kind, 0, 0), 77);
        }
        OpenFields x = Village.ofThreeStrips();
        Check.feed(x, "77");
        x.make(1, 5);
        x.week(6);
        Check.is("its week passed by on the way", x.law(1, 0, 0), 77);
    }

    private static void inForceInTheLastWeek() {
        Check.sentence("A TEXT that is made is in force from a told WEEK on");
        OpenFields x = Village.ofThreeStrips();
        Check.feed(x, "77");
        Check.is("made", x.make(1, 2000), 0);
        Village.until(x, 1999);
        Check.is("week 1999", x.law(1, 0, 0), 9);
        x.week(1);
        Check.is("week 2000", x.law(1, 0, 0), 77);
        Check.feed(x, "78");
        Check.is("2001", x.make(1, 2001), NONE);
        Check.is("1999", x.make(1, 1999), NONE);
        Check.is("2000", x.make(1, 2000), 0);
        Check.is("in force at once", x.law(1, 0, 0), 78);
    }

    private static void laterOneTakesThePlace() {
        Check.sentence("(a later one of its KIND that is made takes its place if it is not yet in force)");
        OpenFields x = Village.ofThreeStrips();
        Check.feed(x, "5");
        x.make(1, 3);
        Check.feed(x, "6");
        x.make(1, 4);
        x.week(3);
        Check.is("the first one never is", x.law(1, 0, 0), 9);
        x.week(1);
        Check.is("the later one", x.law(1, 0, 0), 6);
        OpenFields same = Village.ofThreeStrips();
        Check.feed(same, "5");
        same.make(1, 3);
        Check.feed(same, "6");
        same.make(1, 3);
        same.week(3);
        Check.is("of the same week", same.law(1, 0, 0), 6);
        OpenFields kinds = Village.ofThreeStrips();
        Check.feed(kinds, "5");
        kinds.make(1, 3);
        Check.feed(kinds, "6");
        kinds.make(2, 3);
        kinds.week(3);
        Check.is("of another kind: stays", kinds.law(1, 0, 0), 5);
        Check.is("of another kind: is there", kinds.law(2, 0, 0), 6);
    }

    private static void earlierWeekTakesThePlace() {
        Check.sentence("(a later one of its KIND that is made takes its place if it is not yet in force)");
        OpenFields x = Village.ofThreeStrips();
        Check.feed(x, "5");
        x.make(1, 6);
        Check.feed(x, "6");
        x.make(1, 4);
        x.week(4);
        Check.is("made later, in force sooner", x.law(1, 0, 0), 6);
        x.week(4);
        Check.is("its place was taken", x.law(1, 0, 0), 6);
        Check.feed(x, "7");
        x.make(1, 12);
        Check.feed(x, "8");
        x.make(1, 8);
        Check.is("in force at once", x.law(1, 0, 0), 8);
        x.week(8);
        Check.is("its place was taken, too", x.law(1, 0, 0), 8);
    }

    private static void whatIsInForceStays() {
        Check.sentence("takes its place if it is not yet in force");
        OpenFields x = Village.ofThreeStrips();
        Check.enact(x, 1, "5");
        Check.feed(x, "6");
        x.make(1, 2);
        Check.is("in force until then", x.law(1, 0, 0), 5);
        x.week(1);
        Check.is("still", x.law(1, 0, 0), 5);
        x.week(1);
        Check.is("no more", x.law(1, 0, 0), 6);
    }

    private static void sixtyBytes() {
        Check.sentence("THE TAPE has at most 60 bytes.");
        OpenFields x = Village.ofThreeStrips();
        for (int i = 1; i <= 60; i++) {
            Check.is("byte " + i, x.feed(1, '!'), i);
        }
        Check.is("one more", x.feed(1, '!'), FULL);
        Check.is("sixty", x.count(3), 60);
        Check.is("nothing was lost", x.make(0, 0), -610);
    }

    private static void sixtyBytesAreOneText() {
        Check.sentence("THE TAPE has at most 60 bytes.");
        OpenFields x = Village.ofThreeStrips();
        String text = "1+".repeat(28) + "1234".substring(1) + "*";
        Check.fault(x, text, 60);
        text = "1+".repeat(28) + "2*34";
        Check.is("its length", text.length(), 60);
        Check.gives(x, text, 28 + 68);
        Check.is("the last byte", x.text(0, 59), '4');
        Check.is("no more", x.text(0, 60), NONE);
    }

    private static void anyOrs() {
        Check.sentence("E = A { | A }.");
        OpenFields x = Village.ofThreeStrips();
        Check.gives(x, "7", 7);
        Check.gives(x, "0|7", 1);
        Check.gives(x, "0|0|7", 1);
        Check.gives(x, "0|".repeat(29) + "00", 0);
        Check.fault(x, "|1", 0);
        Check.fault(x, "1||1", 2);
        Check.fault(x, "1|", 2);
        Check.gives(x, "(0|7)", 1);
    }

    private static void anyAnds() {
        Check.sentence("A = N { & N }.");
        OpenFields x = Village.ofThreeStrips();
        Check.gives(x, "7&7", 1);
        Check.gives(x, "7&7&0", 0);
        Check.gives(x, "7&".repeat(29) + "77", 1);
        Check.fault(x, "&1", 0);
        Check.fault(x, "1&&1", 2);
        Check.fault(x, "1&|1", 2);
        Check.fault(x, "1&", 2);
        Check.gives(x, "1|0&0", 1);
        Check.gives(x, "0&0|1", 1);
    }

    private static void anyNots() {
        Check.sentence("N = ! N or C.");
        OpenFields x = Village.ofThreeStrips();
        Check.gives(x, "!7", 0);
        Check.gives(x, "!!7", 1);
        Check.gives(x, "!".repeat(59) + "7", 0);
        Check.gives(x, "!1<2", 0);
        Check.gives(x, "!2<1", 1);
        Check.gives(x, "!0>0", 1);
        Check.gives(x, "!0+7", 0);
        Check.gives(x, "0|!0", 1);
        Check.gives(x, "1&!0", 1);
        Check.fault(x, "!", 1);
        Check.fault(x, "1!", 1);
        Check.fault(x, "1+!1", 2);
        Check.fault(x, "1-!1", 2);
        Check.fault(x, "1*!1", 2);
        Check.fault(x, "1<!1", 2);
        Check.fault(x, "1=!1", 2);
        Check.fault(x, "1>!1", 2);
        Check.gives(x, "1<(!0)+1", 1);
    }

    private static void oneComparison() {
        Check.sentence("C = S [ < S, = S, or > S ] (one of these).");
        OpenFields x = Village.ofThreeStrips();
        String signs = "<=>";
        for (int i = 0; i < 3; i++) {
            for (int k = 0; k < 3; k++) {
                Check.fault(x, "1" + signs.charAt(i) + "2" + signs.charAt(k) + "3", 3);
            }
        }
        Check.fault(x, "!1<2<3", 4);
        Check.fault(x, "1<2+3*4=5", 7);
        Check.fault(x, "1<(2)=3", 5);
        Check.fault(x, "(1<2<3)", 4);
        Check.fault(x, "1<(2<3)<4", 7);
        Check.gives(x, "1<2&2<3|3<4&!4<5", 1);
        Check.gives(x, "(1<2)<2", 1);
        Check.gives(x, "1<(1<2)+1", 1);
        Check.gives(x, "(1<2)=(2<3)", 1);
    }

    private static void sumsFromTheLeft() {
        Check.sentence("S = P { + P, - P }.");
        OpenFields x = Village.ofThreeStrips();
        Check.gives(x, "9-3-2", 4);
        Check.gives(x, "9-3+2", 8);
        Check.gives(x, "9+3-2-1+4", 13);
        Check.gives(x, "9-2*3", 3);
        Check.gives(x, "1-".repeat(29) + "10", 1 - 28 - 10);
        Check.fault(x, "-1", 0);
        Check.fault(x, "+1", 0);
        Check.fault(x, "1--1", 2);
        Check.fault(x, "1-", 2);
    }

    private static void anyProducts() {
        Check.sentence("P = O { * O }.");
        OpenFields x = Village.ofThreeStrips();
        Check.gives(x, "7*1", 7);
        Check.gives(x, "2*3*4", 24);
        Check.gives(x, "2*".repeat(29) + "02", 1 << 30);
        Check.fault(x, "*1", 0);
        Check.fault(x, "1**1", 2);
        Check.fault(x, "1*", 2);
        Check.fault(x, "1*-1", 2);
    }

    private static void threeDigits() {
        Check.sentence("O = a number of one to three digits, a NAME, or ( E ).");
        OpenFields x = Village.ofThreeStrips();
        Check.gives(x, "0", 0);
        Check.gives(x, "9", 9);
        Check.gives(x, "10", 10);
        Check.gives(x, "00", 0);
        Check.gives(x, "999", 999);
        Check.gives(x, "000", 0);
        Check.gives(x, "012", 12);
        Check.fault(x, "1000", 3);
        Check.fault(x, "0000", 3);
        Check.fault(x, "w+0001", 5);
        Check.fault(x, "()", 1);
        Check.fault(x, "1w", 1);
        Check.fault(x, "w1", 1);
        Check.fault(x, "ww", 1);
        Check.fault(x, "1(1)", 1);
        Check.fault(x, "(1)1", 3);
        Check.fault(x, "(1)w", 3);
        Check.fault(x, "(1)(1)", 3);
    }

    private static void tenNames() {
        Check.sentence("NAMES: w the week of the YEAR, y the YEAR, f the FIELD");
        for (int b = 0; b < 256; b++) {
            OpenFields x = Village.ofThreeStrips();
            x.feed(1, b);
            boolean whole = (DIGITS + NAMES).indexOf(b) >= 0;
            boolean begun = b == '(' || b == '!';
            Check.is("a text of byte " + b, x.make(0, 0), whole ? 0 : begun ? -20 : -10);
        }
    }

    private static void noBlanks() {
        Check.sentence("No blanks.");
        OpenFields x = Village.ofThreeStrips();
        Check.fault(x, " 1", 0);
        Check.fault(x, "1 ", 1);
        Check.fault(x, "1 +2", 1);
        Check.fault(x, "1+ 2", 2);
        Check.fault(x, "1\t", 1);
        Check.fault(x, "1\n", 1);
        Check.fault(x, "1\0", 1);
    }

    private static void twelveOpen() {
        Check.sentence("At most 12 ( are open at once.");
        OpenFields x = Village.ofThreeStrips();
        for (int open = 1; open <= 12; open++) {
            Check.gives(x, "(".repeat(open) + "7" + ")".repeat(open), 7);
        }
        Check.fault(x, "(".repeat(13) + "7" + ")".repeat(13), 12);
        Check.gives(x, "(1+".repeat(12) + "1" + ")".repeat(12), 13);
    }

    private static void twelveOpenAtOnce() {
        Check.sentence("At most 12 ( are open at once.");
        OpenFields x = Village.ofThreeStrips();
        String eleven = "(".repeat(11);
        Check.gives(x, "(1)+".repeat(14) + "(1)", 15);
        Check.gives(x, eleven + "(1)+(2)+(3)" + ")".repeat(11), 6);
        Check.fault(x, eleven + "(1)+((2", 16);
        Check.fault(x, eleven + "(1))+(((", 18);
    }

    private static void bytesThatGoOn() {
        Check.sentence("a byte with which no TEXT goes on");
        String begin = DIGITS + NAMES + "(";
        String all = "|&<=>+-*";
        String[][] prefixAndNext = {
            {"", begin + "!"}, {"!", begin + "!"}, {"(", begin + "!"}, {"1&", begin + "!"}, {"1|", begin + "!"},
            {"1<", begin}, {"1=", begin}, {"1>", begin}, {"1+", begin}, {"1-", begin}, {"1*", begin},
            {"1", DIGITS + all}, {"12", DIGITS + all}, {"123", all}, {"w", all}, {"(1)", all},
            {"(1", DIGITS + all + ")"}, {"((1)", all + ")"}, {"(w", all + ")"},
            {"1<2", DIGITS + "|&+-*"}, {"1=w", "|&+-*"}, {"1>(2)", "|&+-*"}, {"1<2+3", DIGITS + "|&+-*"},
            {"1<2&3", DIGITS + all}, {"1<2|w", all}, {"(1<2)", all}, {"1<(2", DIGITS + all + ")"},
            {"(1<w", "|&+-*)"}, {"(1<2)=w", "|&+-*"}, {"1<((2=3)", "|&<=>+-*)"},
        };
        for (String[] row : prefixAndNext) {
            for (int b = 0; b < 256; b++) {
                goesOn(row[0], b, row[1].indexOf(b) >= 0);
            }
        }
    }

    private static void goesOn(String prefix, int b, boolean due) {
        OpenFields x = Village.ofThreeStrips();
        Check.feed(x, prefix);
        x.feed(1, b);
        boolean faultHere = x.make(0, 0) == -10 * (prefix.length() + 1);
        Check.that("byte " + b + " behind " + prefix, faultHere != due);
    }

    private static void valuesWrap() {
        Check.sentence("Values are ints that wrap");
        OpenFields x = Village.ofThreeStrips();
        String most = "(256*256*256*128-1)";
        Check.gives(x, "256*256*256*128", Integer.MIN_VALUE);
        Check.gives(x, "256*256*256*128-1", Integer.MAX_VALUE);
        Check.gives(x, most + "+1", Integer.MIN_VALUE);
        Check.gives(x, "0-" + most + "-2", Integer.MAX_VALUE);
        Check.gives(x, most + "*2", -2);
        Check.gives(x, "256*256*256*256", 0);
        Check.gives(x, "0-256*256*256*128", Integer.MIN_VALUE);
        Check.gives(x, "999*999*999*999", 999 * 999 * 999 * 999);
    }

    private static void comparisonsGive1Or0() {
        Check.sentence("< = > ! & | give 1 or 0");
        OpenFields x = Village.ofThreeStrips();
        int[][] pairs = {{1, 2}, {2, 2}, {3, 2}};
        for (int[] pair : pairs) {
            Check.gives(x, pair[0] + "<" + pair[1], pair[0] < pair[1] ? 1 : 0);
            Check.gives(x, pair[0] + "=" + pair[1], pair[0] == pair[1] ? 1 : 0);
            Check.gives(x, pair[0] + ">" + pair[1], pair[0] > pair[1] ? 1 : 0);
        }
        Check.gives(x, "0-1<0", 1);
        Check.gives(x, "0-1>0", 0);
        // Their difference wraps, but they are what they are.
        Check.gives(x, "256*256*256*128<1", 1);
        Check.gives(x, "1<256*256*256*128", 0);
        Check.gives(x, "256*256*256*128-1>0-2", 1);
        Check.gives(x, "256*256*256*256=0", 1);
    }

    private static void notGives1Or0() {
        Check.sentence("< = > ! & | give 1 or 0");
        OpenFields x = Village.ofThreeStrips();
        Check.gives(x, "!0", 1);
        Check.gives(x, "!1", 0);
        Check.gives(x, "!2", 0);
        Check.gives(x, "!(0-1)", 0);
        Check.gives(x, "!!2", 1);
        Check.gives(x, "!(256*256*256*256)", 1);
        Check.gives(x, "!(256*256*256*128)", 0);
    }

    private static void andOrGive1Or0() {
        Check.sentence("(what is not 0 is true");
        OpenFields x = Village.ofThreeStrips();
        Check.gives(x, "2&4", 1);
        Check.gives(x, "2|4", 1);
        Check.gives(x, "(0-1)&(0-2)", 1);
        Check.gives(x, "(0-1)|0", 1);
        Check.gives(x, "0|(0-1)", 1);
        Check.gives(x, "0&2", 0);
        Check.gives(x, "2&0", 0);
        Check.gives(x, "0|0", 0);
        Check.gives(x, "256*256*256*256|0", 0);
        Check.gives(x, "256*256*256*128&1", 1);
    }

    private static void bothSides() {
        Check.sentence("both sides of & and | are worked out");
        OpenFields x = Village.ofThreeStrips();
        Check.gives(x, "(0&7)+5", 5);
        Check.gives(x, "(1|7)+5", 6);
        Check.gives(x, "0&1|1&1", 1);
        Check.gives(x, "1|0&0|0", 1);
        Check.fault(x, "0&(1", 4);
        Check.fault(x, "1|)", 2);
    }

    private static void rangesOfNames() {
        Check.sentence("c whether there is a CROP, g GRASS, d DUNG, b BEASTS, n how many STRIPS, "
            + "h the number of the HOUSE.");
        OpenFields x = Village.ofHouses(12, 50);
        for (int i = 0; i < 60; i++) {
            x.strip(0, 5, 11);
        }
        x.sow(1);
        x.week(3);
        x.beasts(11, 9);
        Check.gives(x, "n", 60);
        Check.gives(x, "h", 11);
        Check.gives(x, "b", 9);
        Check.gives(x, "g", 9);
        Check.gives(x, "d", 0);
        Check.gives(x, "c", 0);
        Check.gives(x, "f", 0);
        Check.gives(x, "s", 0);
        Check.gives(x, "w", 3);
        Check.gives(x, "y", 0);
        Check.enact(x, 0, "c*10+g");
        Check.is("of the strip with a crop", x.law(0, 0, 1), 10);
        Check.enact(x, 1, "n*100+b*10+h");
        Check.is("a house without strips and beasts", x.law(1, 0, 0), 0);
        Check.enact(x, 0, "1");
        x.week(20);
        Check.gives(x, "d", 9);
        Village.until(x, 40);
        Check.enact(x, 0, "s*10+y");
        Check.is("STILL in year 2", x.law(0, 0, 0), 12);
    }

    private static void nameOfStill() {
        Check.sentence("s whether that is STILL (1, 0)");
        OpenFields x = Village.ofThreeStrips();
        Check.enact(x, 2, "s");
        for (int year = 0; year < 4; year++) {
            Village.until(x, 20 * year);
            for (int field = 0; field < 3; field++) {
                int due = (field + year) % 3 == 2 ? 1 : 0;
                Check.is("OPEN, year " + year + ", field " + field, x.law(0, 0, field), due);
                Check.is("FINE, year " + year + ", field " + field, x.law(2, 0, field), due);
            }
            Village.until(x, 20 * year + 19);
            Check.is("to the last week of year " + year, x.law(2, 0, (5 - year) % 3), 1);
        }
    }

    private static void namesOfStint() {
        Check.sentence("(Of STINT f, s, c, g, d are 0.");
        OpenFields x = Village.ofHouses(2, 50);
        x.strip(2, 5, 0);
        x.strip(1, 5, 1);
        x.beasts(0, 2);
        x.week(5);
        x.sow(1);
        String names = "fscgd";
        for (int i = 0; i < names.length(); i++) {
            Check.enact(x, 1, names.substring(i, i + 1));
            Check.is(names.charAt(i) + " of the pasture", x.law(1, 0, 0), 0);
            Check.is(names.charAt(i) + " of the crop", x.law(1, 1, 1), 0);
        }
        Check.enact(x, 2, "f*100+s*10+c");
        Check.is("of FINE they are not: pasture", x.law(2, 1, 0), 210);
        Check.is("of FINE they are not: crop", x.law(2, 0, 1), 101);
        Check.enact(x, 1, "(f=0)*9");
        Check.is("beasts by a STINT with f", x.beasts(0, 9), 2);
    }

    private static void houseOfOpen() {
        Check.sentence("The HOUSE of OPEN is the STRIP's.");
        OpenFields x = Village.ofHouses(2, 50);
        x.strip(0, 5, 1);
        x.strip(0, 5, 0);
        x.strip(1, 5, 1);
        x.beasts(1, 4);
        Check.enact(x, 0, "b*100+n*10+h");
        Check.is("told house 0", x.law(0, 0, 0), 421);
        Check.is("told house 1", x.law(0, 1, 0), 421);
        Check.is("a strip of house 0", x.law(0, 1, 1), 10);
        Check.enact(x, 0, "h=1");
        x.beasts(0, 1);
        Check.is("a stray of house 0 onto an open one of house 1", x.stray(0, 0), -6);
        Check.is("a stray of house 1 onto a closed one of house 0", x.stray(1, 1), 1);
    }

    private static void leastFault() {
        Check.sentence("The FAULT of a TEXT is the least place (from 0 on)");
        OpenFields x = Village.ofThreeStrips();
        Check.fault(x, "a+a", 0);
        Check.fault(x, "1+a+a", 2);
        Check.fault(x, "1234)5678", 3);
        Check.fault(x, "(1+2))+a", 5);
        Check.fault(x, "1<2<3<4", 3);
        Check.fault(x, "a", 0);
        Check.fault(x, "!".repeat(59) + "a", 59);
    }

    private static void endIsAFault() {
        Check.sentence("the end is one at its length");
        OpenFields x = Village.ofThreeStrips();
        Check.fault(x, "", 0);
        String[] begun = {"!", "(", "1+", "1-", "1*", "1<", "1=", "1>", "1&", "1|", "(1", "((1)", "1+(w", "!!("};
        for (String text : begun) {
            Check.fault(x, text, text.length());
        }
        Check.fault(x, "!".repeat(60), 60);
        Check.fault(x, "(" + "1+".repeat(29) + "1", 60);
    }

    private static void thirteenthIsAFault() {
        Check.sentence("the 13th open ( is one");
        OpenFields x = Village.ofThreeStrips();
        Check.fault(x, "(".repeat(12), 12);
        Check.fault(x, "(".repeat(13), 12);
        Check.fault(x, "(".repeat(60), 12);
        Check.fault(x, "(".repeat(12) + "1+(2", 14);
        Check.fault(x, "1+(".repeat(13), 38);
        Check.fault(x, "!(".repeat(13), 25);
    }

    private static void feedNumber() {
        Check.sentence("n (1 .. 4) bytes come to the TAPE");
        OpenFields x = new OpenFields();
        for (int n : new int[] {0, -1, 5, Integer.MIN_VALUE, Integer.MAX_VALUE}) {
            Check.is("n " + n, x.feed(n, '1'), NONE);
        }
        Check.is("none came", x.count(3), 0);
        int size = 0;
        for (int n = 1; n <= 4; n++) {
            size += n;
            Check.is("n " + n, x.feed(n, '1'), size);
        }
    }

    private static void feedLowestFirst() {
        Check.sentence("the lowest of v first: how many it has");
        int v = '1' | '+' << 8 | '2' << 16 | '3' << 24;
        String whole = "1+23";
        for (int n = 1; n <= 4; n++) {
            OpenFields x = Village.ofThreeStrips();
            x.feed(n, v);
            if (n == 2) {
                x.feed(1, '7');
            }
            Check.is("made of " + n, x.make(0, 0), 0);
            for (int i = 0; i < n; i++) {
                Check.is("byte " + i + " of " + n, x.text(0, i), whole.charAt(i));
            }
            Check.is("no more of " + n, x.text(0, n == 2 ? 3 : n), NONE);
        }
        OpenFields x = Village.ofThreeStrips();
        x.feed(1, 0xffffff00 | '7');
        Check.is("what is above does not count", x.make(0, 0), 0);
        Check.is("the byte", x.text(0, 0), '7');
        x.feed(2, -1);
        Check.is("bytes of -1 are bytes too", x.count(3), 2);
        Check.is("but of no text", x.make(0, 0), -10);
    }

    private static void feedFull() {
        Check.sentence("the lowest of v first: how many it has. NONE, FULL.");
        for (int n = 1; n <= 4; n++) {
            OpenFields x = Village.ofThreeStrips();
            for (int i = 0; i < 60 - n; i++) {
                x.feed(1, '!');
            }
            if (n < 4) {
                Check.is("one more than there is room for", x.feed(n + 1, -1), FULL);
                Check.is("no byte of them came", x.count(3), 60 - n);
            }
            Check.is("as many as there is room for", x.feed(n, 0x30303030), 60);
            for (int more = 1; more <= 4; more++) {
                Check.is("no room", x.feed(more, 0), FULL);
            }
            Check.is("n is looked at first", x.feed(5, 0), NONE);
            Check.is("n is looked at first, too", x.feed(0, 0), NONE);
            Check.is("the tape is as it was", x.make(0, 0), n == 4 ? -10 * 60 : 0);
        }
    }

    private static void makeFrom() {
        Check.sentence("in force from a WEEK on (not ahead of this one)");
        OpenFields x = Village.ofThreeStrips();
        Check.feed(x, "5");
        Check.is("below 0", x.make(1, -1), NONE);
        x.week(3);
        for (int from : new int[] {2, 0, -1, 2001, Integer.MIN_VALUE, Integer.MAX_VALUE}) {
            Check.is("from " + from, x.make(1, from), NONE);
        }
        Check.is("the tape stays", x.count(3), 1);
        Check.is("STINT stays", x.law(1, 0, 0), 9);
        Check.is("this week", x.make(1, 3), 0);
        Check.is("at once", x.law(1, 0, 0), 5);
        Check.feed(x, "6");
        Check.is("the next week", x.make(1, 4), 0);
        Check.feed(x, "7");
        Check.is("the last week", x.make(1, 2000), 0);
    }

    private static void makeEmpties() {
        Check.sentence("and is empty then: 0");
        OpenFields x = Village.ofThreeStrips();
        Check.feed(x, "1+2");
        Check.is("made", x.make(0, 0), 0);
        Check.is("empty", x.count(3), 0);
        Check.is("nothing to clear", x.clear(), 0);
        Check.is("nothing to make", x.make(0, 0), -10);
        Check.feed(x, "7");
        Check.is("made for later", x.make(0, 9), 0);
        Check.is("empty, too", x.count(3), 0);
        Check.feed(x, "!".repeat(59) + "1");
        Check.is("a full one", x.make(0, 0), 0);
        Check.is("there is room again", x.feed(4, 0), 4);
    }

    private static void makeFault() {
        Check.sentence("its FAULT and 1 times -10, if it has one (the TAPE stays)");
        OpenFields x = Village.ofThreeStrips();
        Check.is("fault 0", x.make(1, 0), -10);
        Check.feed(x, "(");
        Check.is("fault 1", x.make(1, 0), -20);
        Check.is("asked again", x.make(2, 0), -20);
        Check.is("it stays", x.count(3), 1);
        Check.feed(x, "8)");
        Check.is("it went on", x.make(1, 0), 0);
        Check.is("in force", x.law(1, 0, 0), 8);
        Check.feed(x, "!".repeat(60));
        Check.is("fault 60", x.make(1, 0), -610);
        Check.is("it stays, full", x.count(3), 60);
        Check.is("in force as it was", x.law(1, 0, 0), 8);
    }

    private static void clear() {
        Check.sentence("The TAPE becomes empty: how many bytes it had.");
        OpenFields x = new OpenFields();
        Check.is("0", x.clear(), 0);
        x.feed(1, 0);
        Check.is("1", x.clear(), 1);
        Check.is("0 then", x.clear(), 0);
        for (int i = 0; i < 15; i++) {
            x.feed(4, 0);
        }
        Check.is("60", x.clear(), 60);
        Check.is("empty", x.count(3), 0);
        Check.is("there is room again", x.feed(4, 0), 4);
    }

    private static void lawNone() {
        Check.sentence("-2000000000: NONE.");
        OpenFields x = Village.ofThreeStrips();
        for (int wrong : new int[] {-1, 3, 60, Integer.MIN_VALUE, Integer.MAX_VALUE}) {
            Check.is("kind " + wrong, x.law(wrong, 0, 0), NO_LAW);
            for (int kind = 0; kind < 3; kind++) {
                Check.is("house " + wrong, x.law(kind, wrong, 0), NO_LAW);
                Check.is("strip " + wrong, x.law(kind, 0, wrong), NO_LAW);
            }
        }
        Check.enact(x, 0, "0-1");
        Check.is("-1 is a value", x.law(0, 0, 0), -1);
        Check.enact(x, 0, "0-9");
        Check.is("-9 is a value", x.law(0, 0, 0), -9);
    }

    private static void lawMustBeThere() {
        Check.sentence("(which don't count where they are nothing to it, but must be there)");
        OpenFields x = new OpenFields();
        for (int kind = 0; kind < 3; kind++) {
            Check.is("nothing there", x.law(kind, 0, 0), NO_LAW);
        }
        x.house(0, 0);
        for (int kind = 0; kind < 3; kind++) {
            Check.is("no strip there", x.law(kind, 0, 0), NO_LAW);
        }
        x.house(0, 0);
        x.strip(2, 5, 0);
        x.strip(0, 5, 1);
        Check.is("no house 2 there, for OPEN", x.law(0, 2, 0), NO_LAW);
        Check.is("no strip 2 there, for STINT", x.law(1, 0, 2), NO_LAW);
        Check.is("house 0 or 1, for OPEN", x.law(0, 0, 0), x.law(0, 1, 0));
        Check.enact(x, 1, "f+g+d+h");
        Check.is("strip 0, for STINT", x.law(1, 1, 0), 1);
        Check.is("strip 1, for STINT", x.law(1, 1, 1), 1);
        Check.enact(x, 2, "f+h*10");
        Check.is("both, for FINE", x.law(2, 1, 0), 12);
        Check.is("both, the other way, for FINE", x.law(2, 0, 1), 0);
    }

    private static void textPlaces() {
        Check.sentence("The byte at a place of the TEXT in force of a KIND; NONE.");
        OpenFields x = Village.ofThreeStrips();
        for (int kind = 0; kind < 3; kind++) {
            Check.enact(x, kind, "12+" + kind);
            Check.is("the first", x.text(kind, 0), '1');
            Check.is("the last", x.text(kind, 3), '0' + kind);
            for (int place : new int[] {-1, 4, 59, 60, Integer.MIN_VALUE, Integer.MAX_VALUE}) {
                Check.is("place " + place, x.text(kind, place), NONE);
            }
        }
        Check.enact(x, 0, "!".repeat(59) + "1");
        Check.is("the first of 60", x.text(0, 0), '!');
        Check.is("the last of 60", x.text(0, 59), '1');
        Check.is("behind 60", x.text(0, 60), NONE);
        Check.enact(x, 0, "7");
        Check.is("a shorter one behind it", x.text(0, 1), NONE);
        Check.feed(x, "88");
        x.make(0, 5);
        Check.is("not what waits", x.text(0, 1), NONE);
        Check.feed(x, "99");
        Check.is("nor what is on the tape", x.text(0, 0), '7');
    }
}
