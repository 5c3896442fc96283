/** Promises 12 to 16: feed, make, clear, law and text. */
public final class LawTest {
    public static void main(String[] args) {
        feed();
        clear();
        makeBounds();
        makeKeepsFaultyTape();
        inForceFromAWeekOn();
        laterTakesThePlace();
        values();
        precedence();
        namesOfOpen();
        namesOfStintAndFine();
        faults();
        parentheses();
        longTexts();
        lawBounds();
        text();
        Check.end();
    }

    private static OpenFields village() {
        OpenFields x = new OpenFields();
        x.house(100, 0);
        x.house(100, 0);
        x.strip(0, 5, 0);
        x.strip(2, 5, 1);
        return x;
    }

    private static void feed() {
        OpenFields x = village();
        Check.is("n 0", x.feed(0, 0), OpenFields.NONE);
        Check.is("n below 0", x.feed(-1, 0), OpenFields.NONE);
        Check.is("n 5", x.feed(5, 0), OpenFields.NONE);
        Check.is("lowest first", x.feed(3, '1' | '+' << 8 | '2' << 16 | 255 << 24), 3);
        Check.is("made", x.make(0, 0), 0);
        Check.is("first byte", x.text(0, 0), '1');
        Check.is("second byte", x.text(0, 1), '+');
        Check.is("third byte", x.text(0, 2), '2');
        Check.is("no fourth byte", x.text(0, 3), OpenFields.NONE);
        for (int i = 1; i <= 14; i++) {
            Check.is("four more", x.feed(4, -1), 4 * i);
        }
        Check.is("59", x.feed(3, 0), 59);
        Check.is("two more are too many", x.feed(2, 0), OpenFields.FULL);
        Check.is("refused", x.count(3), 59);
        Check.is("60", x.feed(1, 0), 60);
        Check.is("61", x.feed(1, 0), OpenFields.FULL);
        Check.is("NONE ahead of FULL", x.feed(5, 0), OpenFields.NONE);
    }

    private static void clear() {
        OpenFields x = village();
        Check.is("empty", x.clear(), 0);
        x.feed(4, 0);
        x.feed(1, 0);
        Check.is("five", x.clear(), 5);
        Check.is("empty again", x.clear(), 0);
        Check.is("counted", x.count(3), 0);
    }

    private static void makeBounds() {
        OpenFields x = village();
        x.week(3);
        Check.feed(x, "1");
        Check.is("kind below 0", x.make(-1, 3), OpenFields.NONE);
        Check.is("kind 3", x.make(3, 3), OpenFields.NONE);
        Check.is("ahead of this week", x.make(0, 2), OpenFields.NONE);
        Check.is("beyond 2000", x.make(0, 2001), OpenFields.NONE);
        Check.is("the tape stays", x.count(3), 1);
        Check.is("this week", x.make(0, 3), 0);
        Check.is("the tape is empty", x.count(3), 0);
        Check.feed(x, "1");
        Check.is("2000", x.make(0, 2000), 0);
        Check.is("an empty tape", x.make(0, 3), -10);
        Check.feed(x, "+");
        Check.is("NONE ahead of a fault", x.make(3, 3), OpenFields.NONE);
    }

    private static void makeKeepsFaultyTape() {
        OpenFields x = village();
        Check.feed(x, "1+");
        Check.is("the end is a fault", x.make(0, 0), -30);
        Check.is("in force as it was", x.text(0, 0), 's');
        Check.is("its value too", x.law(0, 0, 1), 1);
        Check.feed(x, "2");
        Check.is("it goes on", x.make(0, 0), 0);
        Check.is("in force now", x.law(0, 0, 1), 3);
        Check.feed(x, "7");
        x.make(0, 5);
        Check.feed(x, "8+");
        Check.is("a fault", x.make(0, 4), -30);
        x.week(5);
        Check.is("what waits is not touched by a fault", x.law(0, 0, 0), 7);
    }

    private static void inForceFromAWeekOn() {
        OpenFields x = village();
        Check.feed(x, "5");
        x.make(2, 2);
        Check.is("not yet", x.law(2, 0, 0), 1);
        Check.is("its text not yet", x.text(2, 0), '1');
        x.week(1);
        Check.is("not yet, a week on", x.law(2, 0, 0), 1);
        x.week(1);
        Check.is("in force", x.law(2, 0, 0), 5);
        Check.is("its text", x.text(2, 0), '5');
        x.week(1);
        Check.is("still in force", x.law(2, 0, 0), 5);
        Check.feed(x, "6");
        x.make(2, 10);
        Check.feed(x, "6");
        x.make(1, 9);
        x.week(20);
        Check.is("passed on the way", x.law(2, 0, 0), 6);
        Check.is("another kind", x.law(1, 0, 0), 6);

        OpenFields herd = village();
        herd.beasts(0, 1);
        Check.feed(herd, "0");
        herd.make(0, 2);
        herd.week(4);
        Check.is("the herd meets it in its week", herd.hold(0, 3), 2);
    }

    private static void laterTakesThePlace() {
        OpenFields x = village();
        Check.feed(x, "5");
        x.make(2, 2);
        Check.feed(x, "6");
        x.make(2, 4);
        x.week(3);
        Check.is("its place is taken", x.law(2, 0, 0), 1);
        x.week(1);
        Check.is("the later one", x.law(2, 0, 0), 6);
        Check.feed(x, "7");
        x.make(2, 8);
        Check.feed(x, "8");
        x.make(2, 4);
        Check.is("in force at once", x.law(2, 0, 0), 8);
        x.week(6);
        Check.is("the one that waited is gone", x.law(2, 0, 0), 8);
        Check.feed(x, "3");
        x.make(2, 12);
        Check.feed(x, "4");
        x.make(1, 12);
        x.week(5);
        Check.is("kinds don't take each other's place", x.law(2, 0, 0), 3);
        Check.is("nor the other", x.law(1, 0, 0), 4);
    }

    private static void values() {
        OpenFields x = village();
        Check.gives(x, "0", 0);
        Check.gives(x, "999", 999);
        Check.gives(x, "007", 7);
        Check.gives(x, "2-3", -1);
        Check.gives(x, "9-3-2", 4);
        Check.gives(x, "9-3+2", 8);
        Check.gives(x, "3*4*5", 60);
        Check.gives(x, "2<3", 1);
        Check.gives(x, "3<3", 0);
        Check.gives(x, "3=3", 1);
        Check.gives(x, "3=2", 0);
        Check.gives(x, "3>2", 1);
        Check.gives(x, "3>3", 0);
        Check.gives(x, "!0", 1);
        Check.gives(x, "!5", 0);
        Check.gives(x, "!!5", 1);
        Check.gives(x, "!!!5", 0);
        Check.gives(x, "5&7", 1);
        Check.gives(x, "5&0", 0);
        Check.gives(x, "0&5", 0);
        Check.gives(x, "0|0", 0);
        Check.gives(x, "0|5", 1);
        Check.gives(x, "5|0", 1);
        Check.gives(x, "(0-1)&1", 1);
        Check.gives(x, "999*999*999", 999 * 999 * 999);
        Check.gives(x, "999*999*999*999", 999 * 999 * 999 * 999);
        Check.gives(x, "999*999*999*3<0", 999 * 999 * 999 * 3 < 0 ? 1 : 0);
    }

    private static void precedence() {
        OpenFields x = village();
        Check.gives(x, "2+3*4", 14);
        Check.gives(x, "2*3+4", 10);
        Check.gives(x, "(2+3)*4", 20);
        Check.gives(x, "2*(3-(4-5))", 8);
        Check.gives(x, "10-(3-2)", 9);
        Check.gives(x, "1+2<2+2", 1);
        Check.gives(x, "5>2*2", 1);
        Check.gives(x, "!1<2", 0);
        Check.gives(x, "!0+1", 0);
        Check.gives(x, "(!0)+1", 2);
        Check.gives(x, "1+(!0)", 2);
        Check.gives(x, "!0&0", 0);
        Check.gives(x, "!(0&0)", 1);
        Check.gives(x, "1|1&0", 1);
        Check.gives(x, "(1|1)&0", 0);
        Check.gives(x, "0&1|1", 1);
        Check.gives(x, "1<2&2<3", 1);
        Check.gives(x, "1<2|2>3&3=4", 1);
        Check.gives(x, "(3>2)>1", 0);
        Check.gives(x, "3>(2>1)", 1);
        Check.gives(x, "((1<2)=1)+4", 5);
        Check.gives(x, "1&!0&!!3|!7", 1);
        Check.gives(x, "(1|0)*7-(2=2)*3", 4);
    }

    private static void namesOfOpen() {
        OpenFields x = village();
        x.strip(2, 5, 1);
        x.beasts(1, 4);
        x.week(27);
        x.sow(1);
        Check.enact(x, 0, "w");
        Check.is("w", x.law(0, 0, 1), 7);
        Check.enact(x, 0, "y");
        Check.is("y", x.law(0, 0, 1), 1);
        Check.enact(x, 0, "f");
        Check.is("f", x.law(0, 0, 1), 2);
        Check.enact(x, 0, "s+10");
        Check.is("s of WINTER", x.law(0, 0, 1), 10);
        Check.enact(x, 0, "c");
        Check.is("c", x.law(0, 0, 1), 1);
        Check.is("no c", x.law(0, 0, 0), 0);
        Check.enact(x, 0, "g");
        Check.is("g under a crop", x.law(0, 0, 1), 0);
        Check.is("g", x.law(0, 0, 0), x.land(0, 3));
        Check.enact(x, 0, "d");
        Check.is("d", x.law(0, 0, 1), 9);
        Check.enact(x, 0, "b*100+n*10+h");
        Check.is("b, n, h of the strip's house", x.law(0, 0, 1), 421);
        Check.is("the house that is told is nothing to it", x.law(0, 1, 1), 421);
        Check.is("the other house", x.law(0, 1, 0), 10);
    }

    private static void namesOfStintAndFine() {
        OpenFields x = village();
        x.strip(2, 5, 0);
        x.beasts(0, 3);
        x.beasts(1, 5);
        x.week(1);
        Check.enact(x, 1, "f+s+c+g+d");
        Check.is("of STINT they are 0", x.law(1, 1, 1), 0);
        Check.enact(x, 1, "w*900+y*100+b*10+n+h*7");
        Check.is("of STINT: the house told", x.law(1, 1, 0), 900 + 50 + 1 + 7);
        Check.is("of STINT: the other", x.law(1, 0, 1), 900 + 30 + 2);
        Check.enact(x, 2, "b*100+n*10+h");
        Check.is("of FINE: the house told", x.law(2, 0, 1), 320);
        Check.is("of FINE: the other", x.law(2, 1, 2), 511);
        Check.enact(x, 2, "f*100+s*10+c");
        Check.is("of FINE: the strip told", x.law(2, 0, 1), 210);
        Check.is("of FINE: the other strip", x.law(2, 0, 0), 0);
        Check.enact(x, 2, "g*10+d");
        Check.is("of FINE: grass and dung", x.law(2, 0, 1), 10 * x.land(1, 3) + x.land(1, 4));
    }

    private static void faults() {
        OpenFields x = village();
        Check.fault(x, "", 0);
        Check.fault(x, "a", 0);
        Check.fault(x, " 1", 0);
        Check.fault(x, "1 ", 1);
        Check.fault(x, ")", 0);
        Check.fault(x, "()", 1);
        Check.fault(x, "1)", 1);
        Check.fault(x, "(1", 2);
        Check.fault(x, "(1))", 3);
        Check.fault(x, "1234", 3);
        Check.fault(x, "0000", 3);
        Check.fault(x, "1+1234", 5);
        Check.fault(x, "w1", 1);
        Check.fault(x, "12+w3", 4);
        Check.fault(x, "12+(3)4", 6);
        Check.fault(x, "1w", 1);
        Check.fault(x, "wy", 1);
        Check.fault(x, "(1)2", 3);
        Check.fault(x, "(1)w", 3);
        Check.fault(x, "1(2)", 1);
        Check.fault(x, "(1)(2)", 3);
        Check.fault(x, "12(", 2);
        Check.fault(x, "+1", 0);
        Check.fault(x, "-1", 0);
        Check.fault(x, "1+-1", 2);
        Check.fault(x, "1+", 2);
        Check.fault(x, "1*", 2);
        Check.fault(x, "1&", 2);
        Check.fault(x, "1|", 2);
        Check.fault(x, "1<", 2);
        Check.fault(x, "!", 1);
        Check.fault(x, "1!", 1);
        Check.fault(x, "1+!1", 2);
        Check.fault(x, "1*!1", 2);
        Check.fault(x, "1<!1", 2);
        Check.fault(x, "1<=2", 2);
        Check.fault(x, "1==2", 2);
        Check.fault(x, "1&&2", 2);
        Check.fault(x, "1<2<3", 3);
        Check.fault(x, "1=2>3", 3);
        Check.fault(x, "!1<2=3", 4);
        Check.fault(x, "1<(2<3)<4", 7);
        Check.fault(x, "(1<2)<3=4", 7);
        Check.fault(x, "1<2+3*4>5", 7);
        Check.fault(x, "1/2", 1);
        Check.fault(x, "1\0", 1);
        Check.fault(x, "\u00ff", 0);
        Check.fault(x, "W", 0);
        Check.gives(x, "1<2&!2<3|(1<2)<(2<3)", 0);
        Check.gives(x, "(!1)<2", 1);
    }

    private static void parentheses() {
        OpenFields x = village();
        String twelve = "(".repeat(12);
        Check.gives(x, twelve + "7" + ")".repeat(12), 7);
        Check.fault(x, twelve + "(", 12);
        Check.fault(x, twelve + "(7" + ")".repeat(13), 12);
        Check.fault(x, twelve + "7" + ")".repeat(11), 24);
        Check.gives(x, "(1)+(2)+(3)+(4)+(5)+(6)+(7)+(8)+(9)+(1)+(2)+(3)+(4)+(5)", 60);
        Check.gives(x, "((((((((((((1)))))))))))+(((((2)))))+3)*4", 24);
        Check.fault(x, "1+" + "(".repeat(58), 14);
    }

    private static void longTexts() {
        OpenFields x = village();
        Check.gives(x, "!".repeat(59) + "0", 1);
        Check.gives(x, "!".repeat(58) + "10", 1);
        Check.fault(x, "!".repeat(60), 60);
        Check.gives(x, "1+".repeat(29) + "12", 41);
        Check.fault(x, "1+".repeat(30), 60);
        Check.gives(x, "1|2&3<4+5*6&".repeat(4) + "!1|0-7*w+55", 1);
        Check.is("all bytes are kept", x.text(0, 58), '5');
        Check.is("not one more", x.text(0, 59), OpenFields.NONE);
    }

    private static void lawBounds() {
        OpenFields empty = new OpenFields();
        Check.is("no house", empty.law(0, 0, 0), -2000000000);
        empty.house(0, 0);
        Check.is("no strip, even for STINT", empty.law(1, 0, 0), -2000000000);
        OpenFields x = village();
        Check.is("kind below 0", x.law(-1, 0, 0), -2000000000);
        Check.is("kind 3", x.law(3, 0, 0), -2000000000);
        for (int kind = 0; kind < 3; kind++) {
            Check.is("house below 0", x.law(kind, -1, 0), -2000000000);
            Check.is("house not there", x.law(kind, 2, 0), -2000000000);
            Check.is("strip below 0", x.law(kind, 0, -1), -2000000000);
            Check.is("strip not there", x.law(kind, 0, 2), -2000000000);
        }
        Check.is("OPEN at first", x.law(0, 0, 0), 0);
        Check.is("OPEN of STILL at first", x.law(0, 0, 1), 1);
        Check.is("STINT at first", x.law(1, 0, 0), 9);
        Check.is("FINE at first", x.law(2, 0, 0), 1);
    }

    private static void text() {
        OpenFields x = village();
        Check.enact(x, 1, "(b|1)*12");
        String due = "(b|1)*12";
        for (int i = 0; i < due.length(); i++) {
            Check.is("byte " + i, x.text(1, i), due.charAt(i));
        }
        Check.is("at its length", x.text(1, due.length()), OpenFields.NONE);
        Check.is("below 0", x.text(1, -1), OpenFields.NONE);
        Check.is("far", x.text(1, 60), OpenFields.NONE);
        Check.is("kind below 0", x.text(-1, 0), OpenFields.NONE);
        Check.is("kind 3", x.text(3, 0), OpenFields.NONE);
        Check.is("another kind", x.text(2, 0), '1');
        Check.enact(x, 1, "4");
        Check.is("a shorter one", x.text(1, 1), OpenFields.NONE);
    }
}
