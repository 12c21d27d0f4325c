import java.util.Random;

/** Draws TEXTS of LAWS: good ones, and good ones with something spoilt. */
final class LawTexts {
    private static final String[] WORDS = {"reader", "tread", "thick", "level", "weight", "stride", "hour", "dust", "bears"};
    private static final String[] TOKENS = {"bears", "bars", "if", "or", "and", "not", "(", ")", "[", "]", "<", ">", "=", "+", "-", "*",
        "/", ";", "7", "1000", "1001", "0001", "thick", "weights", "A", "\t", "\u00e9", "%", "", "99999999999999999999"};

    private final Random draw;
    private final StringBuilder text = new StringBuilder();

    LawTexts(Random draw) { this.draw = draw; }

    String text() {
        int clauses = 1 + draw.nextInt(draw.nextInt(8) == 0 ? 14 : 3);
        for (int c = 0; c < clauses; c++) {
            if (c > 0) put(";");
            clause(draw.nextInt(6) == 0 ? 7 : 2);
        }
        if (draw.nextInt(4) == 0) spoil();
        return text.toString();
    }

    private void put(String token) {
        boolean glue = text.length() > 0 && token.length() > 0
                && Character.isLetterOrDigit(token.charAt(0)) && Character.isLetterOrDigit(text.charAt(text.length() - 1));
        if (glue || draw.nextInt(8) == 0) text.append(' ');
        text.append(token);
    }

    private void spoil() {
        int how = draw.nextInt(3);
        int at = draw.nextInt(text.length() + 1);
        if (how == 0) text.setLength(at);
        if (how == 1) text.insert(at, TOKENS[draw.nextInt(TOKENS.length)]);
        if (how == 2 && at < text.length()) text.setCharAt(at, (char) (draw.nextInt(3) == 0 ? draw.nextInt(256) : TOKENS[draw.nextInt(28)].concat(" ").charAt(0)));
    }

    private void clause(int deep) {
        if (draw.nextInt(3) > 0) {
            put("bears");
            sum(deep);
        } else {
            put("bars");
            if (draw.nextInt(12) == 0) return;
        }
        if (draw.nextInt(4) > 0) {
            put("if");
            test(deep);
        }
    }

    private void test(int deep) {
        both(deep);
        while (draw.nextInt(3) == 0) {
            put("or");
            both(deep);
        }
    }

    private void both(int deep) {
        plain(deep);
        while (draw.nextInt(3) == 0) {
            put("and");
            plain(deep);
        }
    }

    private void plain(int deep) {
        while (draw.nextInt(5) == 0) put("not");
        if (deep > 0 && draw.nextInt(4) == 0) {
            put("(");
            test(deep - 1);
            put(")");
            return;
        }
        sum(deep);
        put(new String[] {"<", ">", "="}[draw.nextInt(3)]);
        sum(deep);
    }

    private void sum(int deep) {
        term(deep);
        while (draw.nextInt(3) == 0) {
            put(draw.nextBoolean() ? "+" : "-");
            term(deep);
        }
    }

    private void term(int deep) {
        part(deep);
        while (draw.nextInt(3) == 0) {
            put(draw.nextInt(3) == 0 ? "/" : "*");
            part(deep);
        }
    }

    private void part(int deep) {
        if (deep > 0 && draw.nextInt(5) == 0) {
            put("[");
            sum(deep - 1);
            put("]");
        } else if (draw.nextInt(3) == 0) {
            int n = draw.nextInt(20) == 0 ? 995 + draw.nextInt(8) : draw.nextInt(4) == 0 ? draw.nextInt(1000) : draw.nextInt(10);
            put(String.valueOf(n));
        } else {
            put(WORDS[draw.nextInt(WORDS.length)]);
        }
    }
}
