import java.util.ArrayDeque;
import java.util.ArrayList;
import java.util.Deque;
import java.util.HashMap;
import java.util.List;
import java.util.Map;

/** The document's parsing, in the plainest Java, to be held against the class. */
final class ModelParser {
    private record Node(int number, int token, List<Node> children) {
        Node(int number, int token) {
            this(number, token, new ArrayList<>());
        }

        Node with(Node child) {
            children.add(child);
            return this;
        }

        String text() {
            StringBuilder text = new StringBuilder().append(number).append(':').append(token);
            for (int i = 0; i < children.size(); i++) {
                text.append(i == 0 ? "[" : " ").append(children.get(i).text());
            }
            return text.append(children.isEmpty() ? "" : "]").toString();
        }
    }

    /** The operators that group to the left, the weakest first. */
    private static final List<List<String>> OPERATORS =
        List.of(List.of("=="), List.of("<", ">"), List.of("+", "-"), List.of("*", "/"));

    private final List<Model.Token> tokens;
    private final Deque<Map<String, Boolean>> scopes = new ArrayDeque<>();
    private int at;

    ModelParser(List<Model.Token> tokens) {
        this.tokens = tokens;
    }

    String tree() {
        for (Model.Token token : tokens) {
            if (token.isNumber() && !token.text().matches("[0-9]+")) {
                throw new Model.Fault(PhaseReader.NUMBER);
            }
        }
        int open = 0;
        for (Model.Token token : tokens) {
            open += "([{".contains(token.text()) ? 1 : ")]}".contains(token.text()) && open > 0 ? -1 : 0;
            if (open > 6) {
                throw new Model.Fault(PhaseReader.ROOM);
            }
        }
        scopes.push(new HashMap<>());
        Node unit = new Node(0, -1);
        while (at < tokens.size()) {
            unit.with(declaration(true));
        }
        return unit.text();
    }

    private String next() {
        return at < tokens.size() ? tokens.get(at).text() : "";
    }

    private boolean takes(String spelled) {
        boolean stands = next().equals(spelled);
        at += stands ? 1 : 0;
        return stands;
    }

    /** Answers which token it was. */
    private int must(boolean stands) {
        if (!stands) {
            throw new Model.Fault(PhaseReader.SYNTAX);
        }
        return at++;
    }

    private int must(String spelled) {
        return must(next().equals(spelled));
    }

    private boolean isKeyword(int i) {
        return i < tokens.size() && tokens.get(i).text().matches("int|char|typedef|return");
    }

    private boolean isName(int i) {
        return i < tokens.size() && tokens.get(i).isName() && !isKeyword(i);
    }

    private boolean isNumber() {
        return at < tokens.size() && tokens.get(at).isNumber();
    }

    private boolean isTypeName(int i) {
        if (isName(i)) {
            for (Map<String, Boolean> scope : scopes) {
                if (scope.containsKey(tokens.get(i).text())) {
                    return scope.get(tokens.get(i).text());
                }
            }
        }
        return false;
    }

    private boolean isType(int i) {
        return i < tokens.size() && tokens.get(i).text().matches("int|char") || isTypeName(i);
    }

    private Node type() {
        return new Node(3, must(isType(at)));
    }

    private Node declaration(boolean outside) {
        int first = at;
        boolean isTypedef = takes("typedef");
        List<Node> parts = new ArrayList<>();
        parts.add(type());
        do {
            Node d = declarator();
            scopes.peek().put(tokens.get(d.token()).text(), isTypedef);
            parts.add(d);
            boolean isFunction = !d.children().isEmpty() && d.children().get(0).number() == 6;
            if (outside && !isTypedef && parts.size() == 2 && isFunction && next().equals("{")) {
                parts.add(block());
                return new Node(8, first, parts);
            }
            if (!isTypedef && takes("=")) {
                d.with(expression());
            }
        } while (takes(","));
        must(";");
        return new Node(isTypedef ? 2 : 1, first, parts);
    }

    private Node declarator() {
        if (next().equals("*")) {
            int star = at++;
            return declarator().with(new Node(7, star));
        }
        Node d;
        if (takes("(")) {
            d = declarator();
            must(")");
        } else {
            d = new Node(4, must(isName(at)));
        }
        while (next().equals("(") || next().equals("[")) {
            int opening = at++;
            boolean isFunction = tokens.get(opening).is("(");
            d.with(isFunction ? new Node(6, opening) : new Node(5, must(isNumber())));
            must(isFunction ? ")" : "]");
        }
        return d;
    }

    private Node block() {
        Node block = new Node(9, must("{"));
        scopes.push(new HashMap<>());
        while (!next().equals("}")) {
            boolean declares = isKeyword(at) && !next().equals("return") || isTypeName(at);
            block.with(declares ? declaration(false) : statement());
        }
        must("}");
        scopes.pop();
        return block;
    }

    private Node statement() {
        if (next().equals("{")) {
            return block();
        }
        boolean returns = next().equals("return");
        int first = returns ? at++ : at;
        Node e = next().equals(";") ? null : expression();
        int last = must(";");
        Node made = new Node(returns ? 11 : 10, returns ? first : last);
        return e == null ? made : made.with(e);
    }

    private Node expression() {
        Node left = binary(0);
        if (!next().equals("=")) {
            return left;
        }
        int operator = at++;
        return new Node(12, operator).with(left).with(expression());
    }

    private Node binary(int level) {
        if (level == OPERATORS.size()) {
            return operand();
        }
        Node left = binary(level + 1);
        while (OPERATORS.get(level).contains(next())) {
            int operator = at++;
            left = new Node(12, operator).with(left).with(binary(level + 1));
        }
        return left;
    }

    private Node operand() {
        if (next().equals("-") || next().equals("*") || next().equals("&")) {
            int operator = at++;
            return new Node(13, operator).with(operand());
        }
        if (next().equals("(") && isType(at + 1)) {
            Node cast = new Node(14, at++).with(type());
            while (next().equals("*")) {
                cast.with(new Node(7, at++));
            }
            must(")");
            return cast.with(operand());
        }
        return behind(primary());
    }

    private Node primary() {
        if (takes("(")) {
            Node inside = expression();
            must(")");
            return inside;
        }
        int number = isNumber() ? 18 : 17;
        return new Node(number, must(isNumber() || isName(at) && !isTypeName(at)));
    }

    private Node behind(Node primary) {
        Node left = primary;
        while (next().equals("[") || next().equals("(")) {
            int opening = at++;
            boolean isIndex = tokens.get(opening).is("[");
            left = new Node(isIndex ? 15 : 16, opening).with(left);
            if (isIndex) {
                left.with(expression());
                must("]");
            } else if (!takes(")")) {
                do {
                    left.with(expression());
                } while (takes(","));
                must(")");
            }
        }
        return left;
    }
}
