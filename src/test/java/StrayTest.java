/** Promises 17 and 18: strays and the book. */
public final class StrayTest {
    public static void main(String[] args) {
        refused();
        harm();
        fines();
        openIsSeenBehindTheHarm();
        book();
        bookKeepsTwoHundred();
        Check.end();
    }

    private static OpenFields village() {
        OpenFields x = new OpenFields();
        x.house(10, 0);
        x.house(20, 0);
        x.strip(0, 5, 0);
        x.strip(0, 5, 1);
        x.strip(2, 5, 1);
        x.beasts(0, 2);
        return x;
    }

    private static void refused() {
        OpenFields x = village();
        Check.is("house below 0", x.stray(-1, 0), OpenFields.NONE);
        Check.is("house not there", x.stray(2, 0), OpenFields.NONE);
        Check.is("strip below 0", x.stray(0, -1), OpenFields.NONE);
        Check.is("strip not there", x.stray(0, 3), OpenFields.NONE);
        Check.is("NONE ahead of STATE", x.stray(1, 3), OpenFields.NONE);
        Check.is("no beasts", x.stray(1, 0), OpenFields.STATE);
        Check.is("no harm done", x.land(0, 3), 3);
        Check.is("none counted", x.count(4), 0);
    }

    private static void harm() {
        OpenFields x = village();
        Check.is("its own", x.stray(0, 0), -6);
        Check.is("one grass less", x.land(0, 3), 2);
        Check.is("no dung by a stray", x.land(0, 4), 0);
        Check.is("an open one", x.stray(0, 2), -6);
        Check.is("one grass less there", x.land(2, 3), 2);
        x.stray(0, 0);
        x.stray(0, 0);
        Check.is("none left", x.land(0, 3), 0);
        Check.is("on bare ground", x.stray(0, 0), -6);
        Check.is("not below 0", x.land(0, 3), 0);
        x.sow(1);
        x.week(1);
        Check.is("a crop of another house", x.stray(0, 1), 1);
        Check.is("two growth less", x.land(1, 6), 3);
        x.stray(0, 1);
        x.stray(0, 1);
        Check.is("growth not below 0", x.land(1, 6), 0);
        Check.is("grass of a crop", x.land(1, 3), 0);
    }

    private static void fines() {
        OpenFields x = village();
        Check.is("at first", x.stray(0, 1), 1);
        Check.is("paid", x.hold(0, 0), 9);
        Check.is("got", x.hold(1, 0), 21);
        Check.enact(x, 2, "4+h");
        Check.is("four", x.stray(0, 1), 4);
        Check.enact(x, 2, "0-5");
        Check.is("0 at least", x.stray(0, 1), 0);
        Check.is("nothing moved", x.hold(0, 0), 5);
        Check.is("it was a trespass", x.count(4), 3);
        Check.enact(x, 2, "999");
        Check.is("what the barn has", x.stray(0, 1), 5);
        Check.is("bare", x.hold(0, 0), 0);
        Check.is("all there", x.hold(1, 0), 30);
        Check.is("from a bare barn", x.stray(0, 1), 0);
        Check.is("five", x.count(4), 5);
        Check.is("measures stay", x.count(7), 30);
    }

    private static void openIsSeenBehindTheHarm() {
        OpenFields x = village();
        Check.enact(x, 0, "g>2");
        Check.is("it closes by the stray", x.stray(0, 1), 1);
        Check.enact(x, 0, "g<2");
        Check.is("it opens by the stray", x.stray(0, 1), -6);
        Check.enact(x, 0, "0");
        Check.enact(x, 2, "g+3");
        Check.is("the fine is of what is left", x.stray(0, 1), 3);
    }

    private static void book() {
        OpenFields x = village();
        Check.is("empty", x.book(0, 0), OpenFields.NONE);
        x.stray(0, 0);
        Check.is("no trespass, no line", x.book(0, 0), OpenFields.NONE);
        x.stray(0, 1);
        x.week(7);
        x.beasts(1, 1);
        Check.enact(x, 2, "6");
        x.stray(1, 0);
        int[][] due = {{0, 0, 1, 1}, {7, 1, 0, 6}};
        for (int i = 0; i < 2; i++) {
            for (int what = 0; what < 4; what++) {
                Check.is("line " + i + ", " + what, x.book(i, what), due[i][what]);
            }
        }
        Check.is("line 2", x.book(2, 0), OpenFields.NONE);
        Check.is("line below 0", x.book(-1, 0), OpenFields.NONE);
        Check.is("what below 0", x.book(0, -1), OpenFields.NONE);
        Check.is("what 4", x.book(0, 4), OpenFields.NONE);
    }

    private static void bookKeepsTwoHundred() {
        OpenFields x = village();
        for (int i = 0; i < 203; i++) {
            x.stray(0, 1);
        }
        Check.is("the last kept", x.book(199, 2), 1);
        Check.is("paid once", x.book(9, 3), 1);
        Check.is("bare since", x.book(10, 3), 0);
        Check.is("not kept", x.book(200, 0), OpenFields.NONE);
        Check.is("all counted", x.count(4), 203);
        Check.is("the fine is still due", x.stray(0, 1), 0);
    }
}
