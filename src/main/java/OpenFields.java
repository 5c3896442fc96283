/**
 * A village of open fields: houses with strips in three fields that bear by turns, a herd,
 * by-laws that are texts, strays and their fines, and exchanges of strips.
 */
public final class OpenFields {
    public static final int NONE = -1, FULL = -2, STATE = -3, EMPTY = -4, LAW = -5;

    private static final int NO_TRESPASS = -6;
    private static final int UNKNOWN = -9;
    private static final int NO_SUCH_LAW = -2000000000;
    private static final int EATS_NOTHING = 100000;

    private static final int MAX_HOUSES = 12;
    private static final int MAX_STRIPS = 60;
    private static final int MAX_BARN = 10000;
    private static final int MAX_APART = 60;
    private static final int MAX_DEALT = 8;
    private static final int MAX_WEEKS_AT_ONCE = 40;
    private static final int LAST_WEEK = 2000;
    private static final int YEAR = 20;
    // Grass, dung, rest, rain, need, soil and beasts all end at the same number.
    private static final int MOST = 9;

    private static final int FIELDS = 3;
    private static final int WINTER = 0, SPRING = 1, STILL = 2;
    private static final int WINTER_IN_TIME = 2, SPRING_IN_TIME = 7;
    private static final int SPRING_OPENS = 5;
    private static final int WEEKS_TO_RIPEN = 8;

    private static final int KINDS = 3;
    private static final int OPEN = 0, STINT = 1, FINE = 2;

    private final House[] houses = new House[MAX_HOUSES];
    private final Strip[] strips = new Strip[MAX_STRIPS];
    private final Field[] fields = new Field[FIELDS];
    private final int[] rains = new int[YEAR];
    private final ByLaw[] laws = new ByLaw[KINDS];
    private final Tape tape = new Tape();
    private final Reader reader = new Reader();
    private final Reckoner reckoner = new Reckoner();
    private final Book trespasses = new Book();
    private final Deal deal = new Deal();
    private int houseCount = 0;
    private int stripCount = 0;
    private int now = 0;
    private int lost = 0;
    private int mostApart = 3;
    // Where the herd is on its walk from the strips with the most grass to those with the least.
    private int herdGrass = 0;
    private int herdAt = 0;

    public OpenFields() {
        for (int i = 0; i < FIELDS; i++) {
            fields[i] = new Field();
        }
        for (int i = 0; i < YEAR; i++) {
            rains[i] = 5;
        }
        startLaw(OPEN, 's');
        startLaw(STINT, '9');
        startLaw(FINE, '1');
    }

    private void startLaw(int kind, int only) {
        laws[kind] = new ByLaw();
        tape.add(only);
        enact(kind, now);
    }

    public int house(int barn, int need) {
        if (!within(barn, 0, MAX_BARN) || !within(need, 0, MOST)) {
            return NONE;
        }
        if (houseCount >= MAX_HOUSES) {
            return FULL;
        }
        houses[houseCount] = new House(houseCount, barn, need);
        houseCount++;
        return houseCount - 1;
    }

    public int strip(int field, int soil, int house) {
        if (!within(field, 0, FIELDS - 1) || !within(soil, 1, MOST) || !isHouse(house)) {
            return NONE;
        }
        if (stripCount >= MAX_STRIPS) {
            return FULL;
        }
        Strip made = new Strip(stripCount, soil, houses[house], field, fields[field].last);
        houses[house].gain(made);
        fields[field].append(made);
        strips[stripCount] = made;
        stripCount++;
        settleRights();
        return made.number;
    }

    public int rain(int week, int r) {
        if (!within(week, 0, YEAR - 1) || !within(r, 0, MOST)) {
            return NONE;
        }
        int before = rains[week];
        rains[week] = r;
        return before;
    }

    public int beasts(int house, int n) {
        if (!isHouse(house) || !within(n, 0, MOST)) {
            return NONE;
        }
        House keeper = houses[house];
        int before = keeper.beasts;
        if (n > before && n > valueOf(STINT, keeper, null)) {
            return LAW;
        }
        keeper.beasts = n;
        return before;
    }

    // ---- the year

    public int sow(int strip) {
        if (!isStrip(strip)) {
            return NONE;
        }
        Strip sown = strips[strip];
        if (!maySow(sown)) {
            return STATE;
        }
        if (sown.house.barn <= 0) {
            return EMPTY;
        }
        sown.house.barn--;
        sown.plant(now, lateness(sown.field));
        return sown.late;
    }

    public int reap(int strip) {
        if (!isStrip(strip)) {
            return NONE;
        }
        Strip reaped = strips[strip];
        if (!reaped.crop || now - reaped.sownWeek < WEEKS_TO_RIPEN) {
            return STATE;
        }
        int measures = reaped.measures();
        reaped.house.barn += measures;
        reaped.house.reaped += measures;
        reaped.cut();
        return measures;
    }

    public int week(int n) {
        if (!within(n, 1, MAX_WEEKS_AT_ONCE) || now + n > LAST_WEEK) {
            return NONE;
        }
        for (int i = 0; i < n; i++) {
            growStrips();
            grazeHerd();
            eatFromBarns();
            beginWeek();
        }
        return now;
    }

    public int land(int strip, int what) {
        if (!isStrip(strip)) {
            return UNKNOWN;
        }
        Strip asked = strips[strip];
        switch (what) {
            case 0: return asked.field;
            case 1: return asked.soil;
            case 2: return asked.house.number;
            case 3: return asked.grass;
            case 4: return asked.dung;
            case 5: return asked.rest;
            case 6: return asked.crop ? asked.growth : NONE;
            case 7: return asked.crop ? asked.late : NONE;
            case 8: return isOpen(asked) ? 1 : 0;
            case 9: return asked.crop ? asked.measures() : NONE;
            default: return UNKNOWN;
        }
    }

    public int hold(int house, int what) {
        if (!isHouse(house)) {
            return UNKNOWN;
        }
        House asked = houses[house];
        switch (what) {
            case 0: return asked.barn;
            case 1: return asked.need;
            case 2: return asked.beasts;
            case 3: return asked.hungry;
            case 4: return asked.lack;
            case 5: return asked.strips;
            case 6: return asked.held;
            case 7: return asked.right;
            case 8: return piecesOf(asked);
            case 9: return asked.reaped;
            default: return UNKNOWN;
        }
    }

    public int hunger(int house) {
        if (!isHouse(house)) {
            return UNKNOWN;
        }
        House asked = houses[house];
        return asked.need == 0 ? EATS_NOTHING : asked.barn / asked.need;
    }

    // ---- by-laws

    public int feed(int n, int v) {
        if (!within(n, 1, 4)) {
            return NONE;
        }
        if (tape.size + n > Tape.BYTES) {
            return FULL;
        }
        for (int i = 0; i < n; i++) {
            tape.add((v >>> (8 * i)) & 255);
        }
        return tape.size;
    }

    public int make(int kind, int from) {
        if (!within(kind, 0, KINDS - 1) || !within(from, now, LAST_WEEK)) {
            return NONE;
        }
        return enact(kind, from);
    }

    public int clear() {
        int had = tape.size;
        tape.size = 0;
        return had;
    }

    public int law(int kind, int house, int strip) {
        if (!within(kind, 0, KINDS - 1) || !isHouse(house) || !isStrip(strip)) {
            return NO_SUCH_LAW;
        }
        Strip told = strips[strip];
        switch (kind) {
            case OPEN: return valueOf(OPEN, told.house, told);
            case STINT: return valueOf(STINT, houses[house], null);
            default: return valueOf(FINE, houses[house], told);
        }
    }

    public int text(int kind, int i) {
        if (!within(kind, 0, KINDS - 1) || !within(i, 0, laws[kind].inForce.size - 1)) {
            return NONE;
        }
        return laws[kind].inForce.bytes[i];
    }

    // ---- strays

    public int stray(int house, int strip) {
        if (!isHouse(house) || !isStrip(strip)) {
            return NONE;
        }
        House keeper = houses[house];
        Strip trodden = strips[strip];
        if (keeper.beasts == 0) {
            return STATE;
        }
        trodden.trample();
        if (trodden.house == keeper || isOpen(trodden)) {
            return NO_TRESPASS;
        }
        int fine = Math.max(0, valueOf(FINE, keeper, trodden));
        int paid = Math.min(fine, keeper.barn);
        keeper.barn -= paid;
        trodden.house.barn += paid;
        trespasses.write(now, house, strip, paid);
        return paid;
    }

    public int book(int i, int what) {
        if (!within(i, 0, trespasses.lines() - 1) || !within(what, 0, Book.COLUMNS - 1)) {
            return NONE;
        }
        return trespasses.entry(i, what);
    }

    // ---- exchanges

    public int apart(int v) {
        if (!within(v, 0, MAX_APART)) {
            return NONE;
        }
        int before = mostApart;
        mostApart = v;
        return before;
    }

    public int court() {
        return settleRights();
    }

    public int swap(int a, int b) {
        if (!isStrip(a) || !isStrip(b) || strips[a].house == strips[b].house) {
            return NONE;
        }
        if (!mayExchange(strips[a], strips[b])) {
            return STATE;
        }
        exchange(strips[a], strips[b]);
        return allPieces();
    }

    public int better() {
        int made = 0;
        // Each exchange leaves fewer pieces, and there are never more pieces than strips.
        while (made < MAX_STRIPS && makeFirstBetter()) {
            made++;
        }
        return made;
    }

    public int fewest(int field) {
        if (!within(field, 0, FIELDS - 1)) {
            return NONE;
        }
        if (fields[field].size > MAX_DEALT) {
            return FULL;
        }
        return deal.fewestPieces(fields[field], mostApart);
    }

    public int count(int what) {
        switch (what) {
            case 0: return houseCount;
            case 1: return stripCount;
            case 2: return now;
            case 3: return tape.size;
            case 4: return trespasses.written;
            case 5: return lost;
            case 6: return allPieces();
            case 7: return allMeasures();
            default: return NONE;
        }
    }

    private int enact(int kind, int from) {
        int fault = reader.read(tape);
        if (fault != Reader.NO_FAULT) {
            return -10 * (fault + 1);
        }
        reader.draft = laws[kind].announce(reader.draft, from);
        laws[kind].reach(now);
        tape.size = 0;
        return 0;
    }

    private static boolean within(int number, int least, int most) {
        return number >= least && number <= most;
    }

    private boolean isHouse(int number) {
        return within(number, 0, houseCount - 1);
    }

    private boolean isStrip(int number) {
        return within(number, 0, stripCount - 1);
    }

    private int season(int field) {
        return (field + now / YEAR) % FIELDS;
    }

    private boolean maySow(Strip strip) {
        int season = season(strip.field);
        boolean tooEarly = season == SPRING && now % YEAR < SPRING_OPENS;
        return !strip.sown && !strip.crop && season != STILL && !tooEarly;
    }

    private int lateness(int field) {
        int inTime = season(field) == WINTER ? WINTER_IN_TIME : SPRING_IN_TIME;
        return Math.max(0, now % YEAR - inTime);
    }

    private void growStrips() {
        int rain = rains[now % YEAR];
        for (int i = 0; i < stripCount; i++) {
            strips[i].grow(rain);
        }
    }

    private void grazeHerd() {
        herdGrass = MOST;
        herdAt = 0;
        for (int i = 0; i < houseCount; i++) {
            for (int beast = 0; beast < houses[i].beasts; beast++) {
                Strip pasture = nextPasture();
                if (pasture == null) {
                    houses[i].hungry++;
                } else {
                    pasture.graze();
                }
            }
        }
    }

    /**
     * The pasture for the next beast, or null. The herd only takes grass away, and a strip that it
     * did not touch stays as open as it was: so what the walk has passed need not be seen again.
     */
    private Strip nextPasture() {
        while (herdGrass > 0) {
            while (herdAt < stripCount) {
                Strip strip = strips[herdAt];
                herdAt++;
                if (strip.grass == herdGrass && !strip.crop && isOpen(strip)) {
                    return strip;
                }
            }
            herdGrass--;
            herdAt = 0;
        }
        return null;
    }

    private void eatFromBarns() {
        for (int i = 0; i < houseCount; i++) {
            houses[i].eat();
        }
    }

    private void beginWeek() {
        now++;
        for (int i = 0; i < KINDS; i++) {
            laws[i].reach(now);
        }
        if (now % YEAR == 0) {
            beginYear();
        }
    }

    private void beginYear() {
        for (int i = 0; i < stripCount; i++) {
            if (strips[i].crop) {
                lost++;
            }
            strips[i].beginYear();
        }
    }

    private boolean isOpen(Strip strip) {
        return valueOf(OPEN, strip.house, strip) != 0;
    }

    /** What a by-law gives now; without a strip (null) the names of one are 0. */
    private int valueOf(int kind, House house, Strip strip) {
        int[] names = reckoner.names;
        names[0] = now % YEAR;
        names[1] = now / YEAR;
        names[2] = strip == null ? 0 : strip.field;
        names[3] = strip != null && season(strip.field) == STILL ? 1 : 0;
        names[4] = strip != null && strip.crop ? 1 : 0;
        names[5] = strip == null ? 0 : strip.grass;
        names[6] = strip == null ? 0 : strip.dung;
        names[7] = house.beasts;
        names[8] = house.strips;
        names[9] = house.number;
        return reckoner.reckon(laws[kind].inForce);
    }

    private int settleRights() {
        int changed = 0;
        for (int i = 0; i < houseCount; i++) {
            if (houses[i].right != houses[i].held) {
                houses[i].right = houses[i].held;
                changed++;
            }
        }
        return changed;
    }

    private boolean mayExchange(Strip a, Strip b) {
        if (a.crop || b.crop) {
            return false;
        }
        int more = b.worth() - a.worth();
        return a.house.isFair(a.house.held + more, mostApart)
            && b.house.isFair(b.house.held - more, mostApart);
    }

    private static void exchange(Strip a, Strip b) {
        House former = a.house;
        a.give(b.house);
        b.give(former);
    }

    private boolean makeFirstBetter() {
        for (int i = 0; i < stripCount; i++) {
            for (int j = i + 1; j < stripCount; j++) {
                if (isBetter(strips[i], strips[j])) {
                    exchange(strips[i], strips[j]);
                    return true;
                }
            }
        }
        return false;
    }

    private boolean isBetter(Strip a, Strip b) {
        if (a.house == b.house || !mayExchange(a, b)) {
            return false;
        }
        // Only the seams around the two strips can change; each seam that closes is a piece less.
        int before = a.seamsClosed(a.house, b) + b.seamsClosed(b.house, a);
        int after = a.seamsClosed(b.house, b) + b.seamsClosed(a.house, a);
        return after > before;
    }

    private int allPieces() {
        int pieces = 0;
        for (int i = 0; i < stripCount; i++) {
            if (strips[i].beginsPiece()) {
                pieces++;
            }
        }
        return pieces;
    }

    private int piecesOf(House house) {
        int pieces = 0;
        for (int i = 0; i < stripCount; i++) {
            if (strips[i].house == house && strips[i].beginsPiece()) {
                pieces++;
            }
        }
        return pieces;
    }

    private int allMeasures() {
        int measures = 0;
        for (int i = 0; i < houseCount; i++) {
            measures += houses[i].barn;
        }
        return measures;
    }

    private static final class House {
        final int number;
        final int need;
        int barn;
        int beasts = 0;
        int hungry = 0;
        int lack = 0;
        int reaped = 0;
        int strips = 0;
        int held = 0;
        int right = 0;

        House(int number, int barn, int need) {
            this.number = number;
            this.barn = barn;
            this.need = need;
        }

        void eat() {
            int eaten = Math.min(need, barn);
            barn -= eaten;
            lack += need - eaten;
        }

        void gain(Strip strip) {
            strips++;
            held += strip.worth();
        }

        void lose(Strip strip) {
            strips--;
            held -= strip.worth();
        }

        boolean isFair(int holding, int apart) {
            return Math.abs(holding - right) <= apart;
        }
    }

    private static final class Strip {
        final int number;
        final int soil;
        final int field;
        // The strips NEXT to it in its field, null at the field's ends.
        final Strip ahead;
        Strip behind = null;
        House house;
        int grass = 3;
        int dung = 0;
        int rest = 1;
        boolean crop = false;
        boolean sown = false;
        int growth = 0;
        int sownWeek = 0;
        int late = 0;

        Strip(int number, int soil, House house, int field, Strip ahead) {
            this.number = number;
            this.soil = soil;
            this.house = house;
            this.field = field;
            this.ahead = ahead;
        }

        int worth() {
            return 3 * soil + 5;
        }

        void give(House to) {
            house.lose(this);
            house = to;
            to.gain(this);
        }

        void grow(int rain) {
            if (crop) {
                growth += 5 - Math.abs(rain - 5);
            } else {
                grass = Math.min(MOST, grass + (rain + 2) / 3);
            }
        }

        void graze() {
            grass--;
            dung = Math.min(MOST, dung + 1);
        }

        void trample() {
            if (crop) {
                growth = Math.max(0, growth - 2);
            } else if (grass > 0) {
                grass--;
            }
        }

        void plant(int week, int lateness) {
            crop = true;
            sown = true;
            growth = 0;
            sownWeek = week;
            late = lateness;
            grass = 0;
        }

        int measures() {
            int rested = 2 * Math.min(rest, 3);
            return Math.max(0, soil + dung / 2 + rested + growth / 8 - late);
        }

        void cut() {
            crop = false;
            dung /= 2;
            rest = 0;
            grass = 2;
        }

        void beginYear() {
            crop = false;
            if (!sown) {
                rest = Math.min(MOST, rest + 1);
            }
            sown = false;
        }

        boolean beginsPiece() {
            return ahead == null || ahead.house != house;
        }

        /** How many neighbours, the one that is exchanged for it left out, a house has around it. */
        int seamsClosed(House of, Strip without) {
            int closed = 0;
            if (ahead != null && ahead != without && ahead.house == of) {
                closed++;
            }
            if (behind != null && behind != without && behind.house == of) {
                closed++;
            }
            return closed;
        }
    }

    private static final class Field {
        Strip last = null;
        int size = 0;

        void append(Strip strip) {
            if (last != null) {
                last.behind = strip;
            }
            last = strip;
            size++;
        }
    }

    private static final class Tape {
        static final int BYTES = 60;

        final int[] bytes = new int[BYTES];
        int size = 0;

        void add(int value) {
            if (size < BYTES) {
                bytes[size] = value;
                size++;
            }
        }
    }

    /** A text that has been read: its bytes, and steps in which operators stand behind their values. */
    private static final class Text {
        // A step below NAME is a number, one below OPERATOR a name, else an operator's byte.
        static final int NAME = 1000;
        static final int OPERATOR = 2000;
        static final int NOT = OPERATOR + '!';

        final int[] bytes = new int[Tape.BYTES];
        final int[] steps = new int[Tape.BYTES];
        int size = 0;
        int stepCount = 0;

        void addStep(int step) {
            if (stepCount < Tape.BYTES) {
                steps[stepCount] = step;
                stepCount++;
            }
        }

        void addDigit(int digit) {
            if (stepCount > 0) {
                steps[stepCount - 1] = 10 * steps[stepCount - 1] + digit;
            }
        }

        void copyBytes(Tape tape) {
            size = tape.size;
            System.arraycopy(tape.bytes, 0, bytes, 0, size);
        }
    }

    private static final class ByLaw {
        Text inForce = new Text();
        private Text next = new Text();
        private boolean waiting = false;
        private int from = 0;

        /** Lets a text wait for its week, and gives one back that is free to be written over. */
        Text announce(Text made, int week) {
            Text free = next;
            next = made;
            from = week;
            waiting = true;
            return free;
        }

        void reach(int week) {
            if (waiting && from <= week) {
                Text former = inForce;
                inForce = next;
                next = former;
                waiting = false;
            }
        }
    }

    /** Reads a tape byte by byte; operators wait until what stands behind them is written. */
    private static final class Reader {
        static final int NO_FAULT = -1;
        private static final int MAX_DIGITS = 3;
        private static final int MAX_PARENTHESES = 12;
        static final String NAMES = "wyfscgdbnh";

        private final int[] waiting = new int[Tape.BYTES];
        private int waitingCount = 0;
        private int depth = 0;
        private int digits = 0;
        // One bit for each depth: there is a comparison already in the C that is being read.
        private int compared = 0;
        private boolean operandDue = true;
        private boolean notAllowed = true;
        Text draft = new Text();

        /** The FAULT of the tape, or NO_FAULT, and then the draft holds it. */
        int read(Tape tape) {
            begin();
            for (int i = 0; i < tape.size; i++) {
                int b = tape.bytes[i];
                boolean goesOn = operandDue ? readOperand(b) : readBehindOperand(b);
                if (!goesOn) {
                    return i;
                }
            }
            if (operandDue || depth > 0) {
                return tape.size;
            }
            writeWaiting(1);
            draft.copyBytes(tape);
            return NO_FAULT;
        }

        private void begin() {
            draft.stepCount = 0;
            waitingCount = 0;
            depth = 0;
            digits = 0;
            compared = 0;
            operandDue = true;
            notAllowed = true;
        }

        private boolean readOperand(int b) {
            if (isDigit(b)) {
                digits = 1;
                operandDue = false;
                draft.addStep(b - '0');
                return true;
            }
            int name = NAMES.indexOf((char) b);
            if (name >= 0) {
                digits = 0;
                operandDue = false;
                draft.addStep(Text.NAME + name);
                return true;
            }
            if (b == '!' && notAllowed) {
                letWait(b);
                return true;
            }
            return b == '(' && openParenthesis();
        }

        private boolean readBehindOperand(int b) {
            if (isDigit(b)) {
                if (digits == 0 || digits == MAX_DIGITS) {
                    return false;
                }
                digits++;
                draft.addDigit(b - '0');
                return true;
            }
            if (b == ')') {
                return closeParenthesis();
            }
            int strength = strength(b);
            if (strength == 0 || b == '!') {
                return false;
            }
            return noteComparison(b) && readOperator(b, strength);
        }

        private boolean readOperator(int b, int strength) {
            writeWaiting(strength);
            letWait(b);
            operandDue = true;
            notAllowed = b == '&' || b == '|';
            return true;
        }

        /** False for a second comparison in one C. */
        private boolean noteComparison(int b) {
            int here = 1 << depth;
            if (b == '&' || b == '|') {
                compared &= ~here;
            } else if (b == '<' || b == '=' || b == '>') {
                if ((compared & here) != 0) {
                    return false;
                }
                compared |= here;
            }
            return true;
        }

        private boolean openParenthesis() {
            if (depth == MAX_PARENTHESES) {
                return false;
            }
            depth++;
            compared &= ~(1 << depth);
            notAllowed = true;
            letWait('(');
            return true;
        }

        private boolean closeParenthesis() {
            if (depth == 0) {
                return false;
            }
            writeWaiting(1);
            waitingCount = Math.max(0, waitingCount - 1);
            depth--;
            digits = 0;
            return true;
        }

        private void letWait(int b) {
            if (waitingCount < Tape.BYTES) {
                waiting[waitingCount] = b;
                waitingCount++;
            }
        }

        /** Writes what waits since the latest open ( and binds at least as strongly. */
        private void writeWaiting(int strength) {
            while (waitingCount > 0 && strength(waiting[waitingCount - 1]) >= strength) {
                waitingCount--;
                draft.addStep(Text.OPERATOR + waiting[waitingCount]);
            }
        }

        private static boolean isDigit(int b) {
            return b >= '0' && b <= '9';
        }

        /** How strongly an operator binds; 0: it is none. */
        private static int strength(int b) {
            switch (b) {
                case '|': return 1;
                case '&': return 2;
                case '!': return 3;
                case '<':
                case '=':
                case '>': return 4;
                case '+':
                case '-': return 5;
                case '*': return 6;
                default: return 0;
            }
        }
    }

    /** Works out texts for what their names stand for. */
    private static final class Reckoner {
        // In the order of Reader.NAMES.
        final int[] names = new int[10];
        private final int[] values = new int[Tape.BYTES];

        int reckon(Text text) {
            int count = 0;
            for (int i = 0; i < text.stepCount; i++) {
                int step = text.steps[i];
                if (step < Text.OPERATOR && count < values.length) {
                    values[count] = step < Text.NAME ? step : named(step - Text.NAME);
                    count++;
                } else if (step == Text.NOT && count > 0) {
                    values[count - 1] = values[count - 1] == 0 ? 1 : 0;
                } else if (count > 1) {
                    count--;
                    values[count - 1] = apply(step - Text.OPERATOR, values[count - 1], values[count]);
                }
            }
            return values[0];
        }

        private int named(int name) {
            return name < names.length ? names[name] : 0;
        }

        private static int apply(int operator, int left, int right) {
            switch (operator) {
                case '|': return left != 0 || right != 0 ? 1 : 0;
                case '&': return left != 0 && right != 0 ? 1 : 0;
                case '<': return left < right ? 1 : 0;
                case '=': return left == right ? 1 : 0;
                case '>': return left > right ? 1 : 0;
                case '+': return left + right;
                case '-': return left - right;
                default: return left * right;
            }
        }
    }

    private static final class Book {
        static final int COLUMNS = 4;
        private static final int MAX_LINES = 200;

        private final int[] entries = new int[MAX_LINES * COLUMNS];
        int written = 0;

        int lines() {
            return Math.min(written, MAX_LINES);
        }

        void write(int week, int house, int strip, int paid) {
            if (written < MAX_LINES) {
                int start = written * COLUMNS;
                entries[start] = week;
                entries[start + 1] = house;
                entries[start + 2] = strip;
                entries[start + 3] = paid;
            }
            written++;
        }

        int entry(int line, int column) {
            return entries[line * COLUMNS + column];
        }
    }

    /** Gives the strips of a small field out anew in all ways, to find the one with the fewest pieces. */
    private static final class Deal {
        private static final int NOBODY = -1;

        private final House[] owners = new House[MAX_DEALT];
        private final int[] left = new int[MAX_DEALT];
        private final int[] holding = new int[MAX_DEALT];
        private final int[] worths = new int[MAX_DEALT];
        private int ownerCount = 0;
        private int size = 0;
        private int apart = 0;
        private int best = 0;

        int fewestPieces(Field field, int mostApart) {
            apart = mostApart;
            gather(field);
            dealFrom(0, NOBODY, 0);
            return best;
        }

        /** Takes all strips of the field from their houses; the way that was there is the best so far. */
        private void gather(Field field) {
            ownerCount = 0;
            size = 0;
            best = 0;
            Strip strip = field.last;
            while (strip != null && size < MAX_DEALT) {
                int owner = ownerOf(strip.house);
                left[owner]++;
                holding[owner] -= strip.worth();
                worths[size] = strip.worth();
                size++;
                if (strip.beginsPiece()) {
                    best++;
                }
                strip = strip.ahead;
            }
        }

        private int ownerOf(House house) {
            for (int i = 0; i < ownerCount; i++) {
                if (owners[i] == house) {
                    return i;
                }
            }
            owners[ownerCount] = house;
            left[ownerCount] = 0;
            holding[ownerCount] = house.held;
            ownerCount++;
            return ownerCount - 1;
        }

        private void dealFrom(int at, int latest, int pieces) {
            if (pieces + piecesDue(latest) >= best) {
                return;
            }
            if (at >= size) {
                best = pieces;
                return;
            }
            for (int owner = 0; owner < ownerCount; owner++) {
                if (left[owner] > 0) {
                    dealTo(owner, at, owner == latest ? pieces : pieces + 1);
                }
            }
        }

        private void dealTo(int owner, int at, int pieces) {
            left[owner]--;
            holding[owner] += worths[at];
            if (left[owner] > 0 || owners[owner].isFair(holding[owner], apart)) {
                dealFrom(at + 1, owner, pieces);
            }
            holding[owner] -= worths[at];
            left[owner]++;
        }

        /** Each house that has strips to get, but for the latest one, must begin a piece yet. */
        private int piecesDue(int latest) {
            int due = 0;
            for (int owner = 0; owner < ownerCount; owner++) {
                if (left[owner] > 0 && owner != latest) {
                    due++;
                }
            }
            return due;
        }
    }
}
