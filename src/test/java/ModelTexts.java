import java.util.Random;

/** Makes texts by the document's grammar, and spoils some. */
final class ModelTexts {
    private final Random random;
    private final String[] values;

    private ModelTexts(Random random, boolean law) {
        this.random = random;
        values = law ? new String[] {"bang", "crack", "wall", "gap", "walls", "near"}
                : new String[] {"loud", "long", "ahead", "behind"};
    }

    static String some(Random random, boolean law, boolean spoil) {
        ModelTexts maker = new ModelTexts(random, law);
        StringBuilder text = new StringBuilder();
        int lines = random.nextInt(20) == 0 ? 13 : random.nextInt(4);
        for (int i = 0; i < lines; i++) {
            text.append(maker.pick(law ? new String[] {"turn bang", "turn crack", "turn wall", "turn no"}
                    : new String[] {"shot", "truck", "board"}));
            text.append(" when ").append(lines == 13 ? "1=2" : maker.any(0)).append(';').append(maker.blank());
        }
        String made = text.toString();
        if (spoil && !made.isEmpty()) {
            made = maker.spoil(made);
        }
        return made.length() > 400 ? made.substring(0, 400) : made;
    }

    private String spoil(String text) {
        String[] bits = {"(", ")", "not ", "and ", "or ", ";", "0", "/0", "/", "*", "+", "-", "<", "=", ">", "1", "turn ", "x",
            "shot ", "when ", "123456", "\t", "near", "loud", "(((((((((", "not not not not not not not not not "};
        int at = random.nextInt(text.length() + 1);
        switch (random.nextInt(3)) {
            case 0:
                return text.substring(0, at);
            case 1:
                return text.substring(0, at) + pick(bits) + text.substring(at);
            default:
                int to = Math.min(text.length(), at + 1 + random.nextInt(3));
                return text.substring(0, at) + pick(bits) + text.substring(to);
        }
    }

    private String pick(String[] from) {
        return from[random.nextInt(from.length)];
    }

    private String blank() {
        return random.nextInt(3) == 0 ? "" : random.nextInt(4) == 0 ? "\n" : " ";
    }

    private String any(int depth) {
        StringBuilder text = new StringBuilder(all(depth));
        while (random.nextInt(4) == 0) {
            text.append(" or ").append(all(depth));
        }
        return text.toString();
    }

    private String all(int depth) {
        StringBuilder text = new StringBuilder(claim(depth));
        while (random.nextInt(4) == 0) {
            text.append(" and ").append(claim(depth));
        }
        return text.toString();
    }

    private String claim(int depth) {
        int kind = random.nextInt(depth > 9 ? 12 : 6);
        if (kind == 0 && depth < 12) {
            return "not " + claim(depth + 1);
        }
        if (kind == 1 && depth < 12) {
            return "(" + blank() + any(depth + 1) + blank() + ")";
        }
        return sum() + blank() + pick(new String[] {"<", "=", ">"}) + blank() + sum();
    }

    private String sum() {
        String text = product();
        while (random.nextInt(3) == 0) {
            text += blank() + pick(new String[] {"+", "-"}) + blank() + product();
        }
        return text;
    }

    private String product() {
        String text = unit();
        while (random.nextInt(4) == 0) {
            text += random.nextBoolean() ? "*" + unit() : "/" + random.nextInt(60);
        }
        return text;
    }

    private String unit() {
        int kind = random.nextInt(6);
        if (kind == 0) {
            return Integer.toString(random.nextInt(100000));
        }
        return kind == 1 ? Integer.toString(random.nextInt(500)) : pick(values);
    }
}
