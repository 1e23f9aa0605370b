import java.util.ArrayList;
import java.util.List;

/** TEXTS of the document, for the Model: first all tokens, then a tree of what they say. */
final class ModelReader {
    static final List<String> KEYS = List.of("out", "rate", "buy", "lend", "hide", "show", "lift");
    static final List<String> NAMES = List.of("gold", "notes", "reserve", "week", "day", "price",
            "sum", "days", "names", "town");

    static final class Fault extends RuntimeException {
        private static final long serialVersionUID = 1L;
        final int place;

        Fault(int place) {
            this.place = place;
        }
    }

    private final List<String> tokens = new ArrayList<>();
    private final List<Integer> places = new ArrayList<>();
    private int next;
    final Model.Text text = new Model.Text();

    ModelReader(List<Integer> tape) {
        StringBuilder all = new StringBuilder();
        for (int b : tape) {
            all.append((char) b);
        }
        String s = all.toString();
        java.util.regex.Matcher m =
                java.util.regex.Pattern.compile("[a-z]+|[0-9]+|[^ ]", java.util.regex.Pattern.DOTALL)
                .matcher(s);
        while (m.find()) {
            tokens.add(m.group());
            places.add(m.start());
        }
        tokens.add("");
        places.add(s.length());
    }

    /** The place of the fault, -1 if there is none. */
    int fault() {
        try {
            if (!KEYS.contains(tokens.get(0))) {
                throw new Fault(places.get(0));
            }
            text.key = take();
            text.meaning = either(0);
            if (isNext("if")) {
                take();
                text.condition = either(0);
            }
            if (!isNext("")) {
                throw new Fault(places.get(next));
            }
            return -1;
        } catch (Fault f) {
            return f.place;
        }
    }

    private boolean isNext(String token) {
        return tokens.get(next).equals(token);
    }

    private String take() {
        return tokens.get(next++);
    }

    private void takeOpening(int open) {
        if (open == 6) {
            throw new Fault(places.get(next));
        }
        take();
    }

    private Model.Expr either(int open) {
        Model.Expr e = both(open);
        while (isNext("or")) {
            take();
            Model.Expr a = e;
            Model.Expr b = both(open);
            e = f -> a.at(f) != 0 | b.at(f) != 0 ? 1 : 0;
        }
        return e;
    }

    private Model.Expr both(int open) {
        Model.Expr e = not(open);
        while (isNext("and")) {
            take();
            Model.Expr a = e;
            Model.Expr b = not(open);
            e = f -> a.at(f) != 0 & b.at(f) != 0 ? 1 : 0;
        }
        return e;
    }

    private Model.Expr not(int open) {
        if (isNext("not")) {
            takeOpening(open);
            Model.Expr a = not(open + 1);
            return f -> a.at(f) == 0 ? 1 : 0;
        }
        Model.Expr a = sum(open);
        if (isNext("=")) {
            take();
            Model.Expr b = sum(open);
            return f -> a.at(f) == b.at(f) ? 1 : 0;
        }
        if (isNext("<")) {
            take();
            Model.Expr b = sum(open);
            return f -> a.at(f) < b.at(f) ? 1 : 0;
        }
        if (isNext(">")) {
            take();
            Model.Expr b = sum(open);
            return f -> a.at(f) > b.at(f) ? 1 : 0;
        }
        return a;
    }

    private Model.Expr sum(int open) {
        Model.Expr e = term(open);
        while (isNext("+") || isNext("-")) {
            boolean plus = take().equals("+");
            Model.Expr a = e;
            Model.Expr b = term(open);
            e = f -> plus ? a.at(f) + b.at(f) : a.at(f) - b.at(f);
        }
        return e;
    }

    private Model.Expr term(int open) {
        Model.Expr e = one(open);
        while (isNext("*") || isNext("/") || isNext("%")) {
            String sign = take();
            Model.Expr a = e;
            Model.Expr b = one(open);
            e = f -> {
                int x = a.at(f);
                int y = b.at(f);
                return sign.equals("*") ? x * y : y == 0 ? 0 : sign.equals("/") ? x / y : x % y;
            };
        }
        return e;
    }

    private Model.Expr one(int open) {
        String t = tokens.get(next);
        if (t.matches("[0-9]{1,5}")) {
            int v = Integer.parseInt(take());
            return f -> v;
        }
        if (NAMES.contains(t)) {
            take();
            return f -> f.get(t);
        }
        if (t.equals("-")) {
            takeOpening(open);
            Model.Expr a = one(open + 1);
            return f -> -a.at(f);
        }
        if (t.equals("(")) {
            takeOpening(open);
            Model.Expr e = either(open + 1);
            if (!isNext(")")) {
                throw new Fault(places.get(next));
            }
            take();
            return e;
        }
        throw new Fault(places.get(next));
    }
}
