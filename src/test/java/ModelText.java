import java.util.ArrayList;
import java.util.List;
import java.util.Map;
import java.util.Set;

/** A text read by descent, its conditions kept as trees of functions. */
final class ModelText {
    interface Value {
        int of(Map<String, Integer> values);
    }

    record Line(String tells, Value when) { }

    record Token(String text, int place) { }

    private static final class Stop extends RuntimeException {
        private static final long serialVersionUID = 1L;
        final int fault;
        final int place;

        Stop(int fault, int place) {
            this.fault = fault;
            this.place = place;
        }
    }

    final List<Line> lines = new ArrayList<>();
    int fault;
    int place = -1;
    private final List<Token> tokens = new ArrayList<>();
    private int at;
    private final Set<String> values;

    ModelText(String text, boolean law) {
        values = law ? Set.of("bang", "crack", "wall", "gap", "walls", "near") : Set.of("loud", "long", "ahead", "behind");
        java.util.regex.Matcher m =
                java.util.regex.Pattern.compile("[A-Za-z]+|[0-9]+|[^ \n]", java.util.regex.Pattern.DOTALL).matcher(text);
        while (m.find()) {
            tokens.add(new Token(m.group(), m.start()));
        }
        tokens.add(new Token("", text.length()));
        try {
            readLines(law);
        } catch (Stop stop) {
            fault = stop.fault;
            place = stop.place;
        }
    }

    String tell(Map<String, Integer> of) {
        return lines.stream().filter(l -> l.when.of(of) != 0).map(l -> l.tells.equals("no") ? "" : l.tells).findFirst()
                .orElse("");
    }

    private String peek() {
        return tokens.get(at).text;
    }

    private String take(String... which) {
        if (!Set.of(which).contains(peek())) {
            throw new Stop(1, tokens.get(at).place);
        }
        return tokens.get(at++).text;
    }

    private void readLines(boolean law) {
        while (!peek().isEmpty()) {
            int start = tokens.get(at).place;
            String tells = law ? take("turn") : take("shot", "truck", "board");
            if (lines.size() == 12) {
                throw new Stop(3, start);
            }
            if (law) {
                tells = take("bang", "crack", "wall", "no");
            }
            take("when");
            Value when = any(0);
            take(";");
            lines.add(new Line(tells, when));
        }
    }

    private Value any(int open) {
        Value left = all(open);
        while (peek().equals("or")) {
            at++;
            Value l = left;
            Value r = all(open);
            left = v -> l.of(v) != 0 || r.of(v) != 0 ? 1 : 0;
        }
        return left;
    }

    private Value all(int open) {
        Value left = claim(open);
        while (peek().equals("and")) {
            at++;
            Value l = left;
            Value r = claim(open);
            left = v -> l.of(v) != 0 && r.of(v) != 0 ? 1 : 0;
        }
        return left;
    }

    private Value claim(int open) {
        if (peek().equals("(") || peek().equals("not")) {
            if (open == 8) {
                throw new Stop(3, tokens.get(at).place);
            }
            if (take("(", "not").equals("not")) {
                Value inner = claim(open + 1);
                return v -> inner.of(v) == 0 ? 1 : 0;
            }
            Value inner = any(open + 1);
            take(")");
            return inner;
        }
        Value left = sum();
        String sign = take("<", "=", ">");
        Value right = sum();
        return v -> {
            int order = Integer.compare(left.of(v), right.of(v));
            return order == (sign.equals("<") ? -1 : sign.equals("=") ? 0 : 1) ? 1 : 0;
        };
    }

    private Value sum() {
        Value left = product();
        while (peek().equals("+") || peek().equals("-")) {
            boolean plus = take("+", "-").equals("+");
            Value l = left;
            Value r = product();
            left = v -> plus ? l.of(v) + r.of(v) : l.of(v) - r.of(v);
        }
        return left;
    }

    private Value product() {
        Value left = unit();
        while (peek().equals("*") || peek().equals("/")) {
            Value l = left;
            if (take("*", "/").equals("*")) {
                Value r = unit();
                left = v -> l.of(v) * r.of(v);
            } else {
                int start = tokens.get(at).place;
                int by = number();
                if (by == 0) {
                    throw new Stop(2, start);
                }
                left = v -> l.of(v) / by;
            }
        }
        return left;
    }

    private int number() {
        if (!peek().matches("[0-9]{1,5}")) {
            throw new Stop(1, tokens.get(at).place);
        }
        return Integer.parseInt(tokens.get(at++).text);
    }

    private Value unit() {
        if (values.contains(peek())) {
            String name = tokens.get(at++).text;
            return v -> v.get(name);
        }
        int number = number();
        return v -> number;
    }
}
