/** The grammar of by-laws, rule by rule, as the document writes it; for {@link Model}. */
final class Grammar {
    private static final String NAMES = "wyfscgdbnh";

    private static final class Bad extends Exception {
        private static final long serialVersionUID = 1L;
    }

    private final String text;
    private final int[] names;
    private int at = 0;
    private int open = 0;

    private Grammar(String text, int[] names) {
        this.text = text;
        this.names = names;
    }

    /** The FAULT by its definition: the first byte behind which no ending makes a text; -1: none. */
    static int fault(String text) {
        for (int i = 0; i < text.length(); i++) {
            if (!canGoOn(text.substring(0, i + 1))) {
                return i;
            }
        }
        return isText(text) ? -1 : text.length();
    }

    private static boolean canGoOn(String start) {
        for (int closing = 0; closing <= 12; closing++) {
            String ends = ")".repeat(closing);
            if (isText(start + ends) || isText(start + "1" + ends)) {
                return true;
            }
        }
        return false;
    }

    private static boolean isText(String text) {
        try {
            whole(text, new int[10]);
            return true;
        } catch (Bad e) {
            return false;
        }
    }

    static int value(String text, int[] names) {
        try {
            return whole(text, names);
        } catch (Bad e) {
            throw new IllegalStateException(text);
        }
    }

    private static int whole(String text, int[] names) throws Bad {
        Grammar g = new Grammar(text, names);
        int value = g.e();
        if (g.at != text.length()) {
            throw new Bad();
        }
        return value;
    }

    private char next() {
        return at < text.length() ? text.charAt(at) : 0xFFFF;
    }

    private boolean take(char c) {
        if (next() != c) {
            return false;
        }
        at++;
        return true;
    }

    private int e() throws Bad {
        int value = a();
        while (take('|')) {
            int other = a();
            value = value != 0 || other != 0 ? 1 : 0;
        }
        return value;
    }

    private int a() throws Bad {
        int value = n();
        while (take('&')) {
            int other = n();
            value = value != 0 && other != 0 ? 1 : 0;
        }
        return value;
    }

    private int n() throws Bad {
        if (take('!')) {
            return n() == 0 ? 1 : 0;
        }
        return c();
    }

    private int c() throws Bad {
        int value = s();
        if (take('<')) {
            return value < s() ? 1 : 0;
        }
        if (take('=')) {
            return value == s() ? 1 : 0;
        }
        if (take('>')) {
            return value > s() ? 1 : 0;
        }
        return value;
    }

    private int s() throws Bad {
        int value = p();
        while (true) {
            if (take('+')) {
                value += p();
            } else if (take('-')) {
                value -= p();
            } else {
                return value;
            }
        }
    }

    private int p() throws Bad {
        int value = o();
        while (take('*')) {
            value *= o();
        }
        return value;
    }

    private int o() throws Bad {
        if (next() >= '0' && next() <= '9') {
            int start = at;
            while (at - start < 3 && next() >= '0' && next() <= '9') {
                at++;
            }
            return Integer.parseInt(text.substring(start, at));
        }
        int name = NAMES.indexOf(next());
        if (name >= 0) {
            at++;
            return names[name];
        }
        if (!take('(') || ++open > 12) {
            throw new Bad();
        }
        int value = e();
        if (!take(')')) {
            throw new Bad();
        }
        open--;
        return value;
    }
}
