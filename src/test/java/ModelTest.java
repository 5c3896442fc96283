import java.util.Random;

/** Runs of up to 512 calls, drawn from fixed seeds, on the class and on {@link Model}: all answers agree. */
public final class ModelTest {
    private static final int RUNS = 600;
    private static final int CALLS = 512;
    // A by-law takes as many calls as this at most, so that no run goes beyond CALLS.
    private static final int CALLS_AT_ONCE = 17;
    private static final String BYTES = "0123456789wyfscgdbnh()!&|<=>+-*";

    private final Random random;
    private final OpenFields x = new OpenFields();
    private final Model m = new Model();
    private final int manyHouses;
    private final int manyStrips;
    private final String run;
    private int calls = 0;

    private ModelTest(int seed) {
        random = new Random(seed);
        run = "run " + seed + ", call ";
        manyHouses = 1 + random.nextInt(12);
        manyStrips = 1 + random.nextInt(seed % 3 == 0 ? 60 : 24);
    }

    public static void main(String[] args) {
        for (int seed = 0; seed < RUNS; seed++) {
            new ModelTest(seed).go();
        }
        faults();
        Check.end();
    }

    private static void faults() {
        Random random = new Random(7);
        for (int i = 0; i < 40000; i++) {
            OpenFields x = new OpenFields();
            Model m = new Model();
            ModelTest t = new ModelTest(random.nextInt());
            String text = t.someText();
            Check.feed(x, text);
            m.tape = text;
            Check.is("fault of " + text, x.make(0, 0), m.make(0, 0));
        }
    }

    private void go() {
        for (int i = 0; i < manyHouses; i++) {
            house();
        }
        for (int i = 0; i < manyStrips; i++) {
            strip();
        }
        while (calls <= CALLS - CALLS_AT_ONCE) {
            if (random.nextInt(3) == 0) {
                look();
            } else {
                act();
            }
        }
    }

    private void due(String call, int got, int want) {
        calls++;
        Check.is(run + calls + ": " + call, got, want);
    }

    private int pick(int least, int most) {
        if (random.nextInt(40) == 0) {
            return random.nextBoolean() ? least - 1 : most + 1;
        }
        return random.nextInt(500) == 0 ? random.nextInt() : least + random.nextInt(most - least + 1);
    }

    private int aHouse() {
        return pick(0, Math.max(0, m.houses.size() - 1));
    }

    private int aStrip() {
        return pick(0, Math.max(0, m.strips.size() - 1));
    }

    private void house() {
        int barn = random.nextInt(4) == 0 ? pick(0, 10000) : pick(0, 60);
        int need = pick(0, random.nextInt(3) == 0 ? 9 : 2);
        due("house", x.house(barn, need), m.house(barn, need));
    }

    private void strip() {
        int field = pick(0, 2);
        int soil = random.nextBoolean() ? pick(4, 6) : pick(1, 9);
        int house = aHouse();
        due("strip", x.strip(field, soil, house), m.strip(field, soil, house));
    }

    private void act() {
        int a = aHouse();
        int s = aStrip();
        int t = aStrip();
        int n;
        switch (random.nextInt(24)) {
            case 0:
                if (random.nextInt(4) == 0) {
                    house();
                } else {
                    strip();
                }
                break;
            case 1:
                s = pick(0, 19);
                n = pick(0, 9);
                due("rain", x.rain(s, n), m.rain(s, n));
                break;
            case 2:
            case 3:
                n = pick(0, 9);
                due("beasts", x.beasts(a, n), m.beasts(a, n));
                break;
            case 4:
            case 5:
            case 6:
            case 7:
            case 8:
                due("sow", x.sow(s), m.sow(s));
                break;
            case 9:
            case 10:
            case 11:
                due("reap", x.reap(s), m.reap(s));
                break;
            case 12:
            case 13:
            case 14:
                n = random.nextInt(6) == 0 ? pick(1, 40) : pick(1, 4);
                due("week", x.week(n), m.week(n));
                break;
            case 15:
            case 16:
                byLaw();
                break;
            case 17:
                n = pick(1, 4);
                int v = random.nextInt();
                due("feed", x.feed(n, v), m.feed(n, v));
                break;
            case 18:
                due("clear", x.clear(), m.clear());
                break;
            case 19:
                due("stray", x.stray(a, s), m.stray(a, s));
                break;
            case 20:
                n = random.nextBoolean() ? pick(0, 12) : pick(0, 60);
                due("apart", x.apart(n), m.apart(n));
                break;
            case 21:
                due("swap", x.swap(s, t), m.swap(s, t));
                break;
            case 22:
                due("better", x.better(), m.better());
                break;
            default:
                due("court", x.court(), m.court());
                break;
        }
    }

    private void byLaw() {
        if (random.nextInt(5) > 0) {
            due("clear", x.clear(), m.clear());
        }
        String text = someText();
        for (int i = 0; i < text.length(); i += 4) {
            int n = Math.min(4, text.length() - i);
            int v = random.nextInt();
            for (int k = 0; k < n; k++) {
                v = v & ~(255 << 8 * k) | text.charAt(i + k) << 8 * k;
            }
            due("feed " + text, x.feed(n, v), m.feed(n, v));
        }
        int kind = pick(0, 2);
        int from = random.nextBoolean() ? m.week : pick(m.week, m.week + 25);
        due("make " + text, x.make(kind, from), m.make(kind, from));
    }

    private void look() {
        int a = aHouse();
        int s = aStrip();
        int what = pick(0, 9);
        switch (random.nextInt(9)) {
            case 0:
            case 1:
                due("land " + what, x.land(s, what), m.land(s, what));
                break;
            case 2:
            case 3:
                due("hold " + what, x.hold(a, what), m.hold(a, what));
                break;
            case 4:
                due("count " + what, x.count(what), m.count(what));
                break;
            case 5:
                what = pick(0, 2);
                due("law", x.law(what, a, s), m.law(what, a, s));
                break;
            case 6:
                what = pick(0, 2);
                s = pick(0, 12);
                due("text", x.text(what, s), m.text(what, s));
                break;
            case 7:
                what = pick(0, 3);
                s = pick(0, Math.max(0, m.trespasses.size() - 1));
                due("book", x.book(s, what), m.book(s, what));
                due("hunger", x.hunger(a), m.hunger(a));
                break;
            default:
                lookForFewest();
                break;
        }
    }

    private void lookForFewest() {
        int field = pick(0, 2);
        due("fewest", x.fewest(field), m.fewest(field));
    }

    private String someText() {
        String text = expression(1 + random.nextInt(5));
        if (random.nextInt(6) == 0 && !text.isEmpty()) {
            int at = random.nextInt(text.length());
            char c = random.nextInt(5) == 0 ? (char) random.nextInt(256) : BYTES.charAt(random.nextInt(BYTES.length()));
            text = text.substring(0, at) + c + text.substring(at + random.nextInt(2));
        }
        return text.length() > 60 ? text.substring(0, 60) : text;
    }

    private String expression(int size) {
        if (size <= 1) {
            return random.nextInt(3) == 0
                ? String.valueOf(random.nextInt(random.nextInt(8) == 0 ? 1000 : 12))
                : String.valueOf("wyfscgdbnh".charAt(random.nextInt(10)));
        }
        int left = 1 + random.nextInt(size - 1);
        String inner = expression(left) + "|&<=>+-*+-*".charAt(random.nextInt(11)) + expression(size - left);
        switch (random.nextInt(5)) {
            case 0: return "(" + inner + ")";
            case 1: return "!" + inner;
            case 2: return "(!" + inner + ")";
            default: return inner;
        }
    }
}
