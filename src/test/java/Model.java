import java.util.ArrayDeque;
import java.util.ArrayList;
import java.util.Deque;
import java.util.HashSet;
import java.util.LinkedHashMap;
import java.util.List;
import java.util.Map;
import java.util.Set;
import java.util.regex.Matcher;
import java.util.regex.Pattern;

/**
 * The document's phases up to the parsing, in the plainest Java, to be held against the class. It
 * takes its words one after the other, and shares neither code nor rows with the class.
 */
final class Model {
    /** What went wrong; nothing is done behind it. */
    static final class Fault extends RuntimeException {
        private static final long serialVersionUID = 1L;
        final int code;

        Fault(int code) {
            super(null, null, false, false);
            this.code = code;
        }
    }

    record Token(String text, int place, Set<String> hide, boolean glued) {
        boolean is(String spelled) {
            return text.equals(spelled);
        }

        boolean isName() {
            return text.matches("[A-Za-z_]\\w*");
        }

        boolean isNumber() {
            return text.matches("[0-9]\\w*");
        }
    }

    private record Letter(char c, int place) {
    }

    private record Macro(boolean isCall, List<String> parameters, List<String> body) {
    }

    /** A conditional that is open. */
    private static final class Conditional {
        boolean whole;
        boolean skips;
        boolean elseSeen;
    }

    private static final String NAME = "[A-Za-z_]\\w*";
    private static final Pattern TOKEN = Pattern.compile("\\w+|##|==|[()\\[\\]{};,=+*/&<>#-]");

    private final String[] files;
    private final Map<String, Macro> macros = new LinkedHashMap<>();
    private final List<Token> out = new ArrayList<>();
    private int verdict;
    private int replaced;
    private int includes;
    private String tree = "";

    Model(String... files) {
        this.files = files;
    }

    /** What Check.outcome is to be behind translate of this file. */
    String outcome(int file) {
        boolean parsing = false;
        try {
            goThrough(file, 1);
            parsing = true;
            tree = new ModelParser(out).tree();
        } catch (Fault fault) {
            verdict = fault.code;
        }
        if (!parsing) {
            out.clear();
        }
        StringBuilder words = new StringBuilder();
        StringBuilder places = new StringBuilder();
        for (Token token : out) {
            words.append(words.length() == 0 ? "" : " ").append(token.text());
            places.append(places.length() == 0 ? "" : " ").append(token.place());
        }
        return verdict + " " + words + " / " + places + " / " + replaced + " " + macros.size() + " / " + tree;
    }

    private List<Letter> letters(int file) {
        List<Letter> letters = new ArrayList<>();
        String text = files[file];
        int place = 1000 * file + 1;
        for (int i = 0; i < text.length(); i++) {
            char c = text.charAt(i);
            String three = text.substring(i, Math.min(i + 3, text.length()));
            int trigraph = three.matches("[?][?][-=/'()!<>]") ? "=/'()!<>-".indexOf(three.charAt(2)) : -1;
            letters.add(new Letter(trigraph < 0 ? c : "#\\^[]|{}~".charAt(trigraph), place));
            i += trigraph < 0 ? 0 : 2;
            place += c == '\n' ? 1 : 0;
        }
        List<Letter> joined = new ArrayList<>();
        for (int i = 0; i < letters.size(); i++) {
            boolean goes = letters.get(i).c == '\\' && i + 1 < letters.size() && letters.get(i + 1).c == '\n';
            if (goes) {
                i++;
            } else {
                joined.add(letters.get(i));
            }
        }
        if (!joined.isEmpty() && joined.get(joined.size() - 1).c != '\n') {
            joined.add(new Letter('\n', 0));
        }
        return joined;
    }

    private List<List<Token>> lines(int file) {
        List<Letter> letters = letters(file);
        StringBuilder all = new StringBuilder();
        letters.forEach(letter -> all.append(letter.c));
        String text = all.toString();
        List<List<Token>> lines = new ArrayList<>();
        lines.add(new ArrayList<>());
        boolean glued = false;
        for (int at = 0; at < text.length();) {
            int blank = blankEnd(text, at);
            if (blank > at) {
                if (text.charAt(at) == '\n') {
                    lines.add(new ArrayList<>());
                }
                glued = false;
                at = blank;
            } else {
                Matcher token = TOKEN.matcher(text).region(at, text.length());
                if (!token.lookingAt() || token.group().length() > 9) {
                    throw new Fault(PhaseReader.CHARACTER);
                }
                lines.get(lines.size() - 1).add(new Token(token.group(), letters.get(at).place, Set.of(), glued));
                glued = true;
                at = token.end();
            }
        }
        return lines;
    }

    private static int blankEnd(String text, int at) {
        if (text.startsWith("/*", at)) {
            int end = text.indexOf("*/", at + 2);
            if (end < 0) {
                throw new Fault(PhaseReader.COMMENT);
            }
            return end + 2;
        }
        if (text.startsWith("//", at)) {
            return text.indexOf('\n', at);
        }
        return text.charAt(at) == ' ' || text.charAt(at) == '\n' ? at + 1 : at;
    }

    private void goThrough(int file, int filesOpen) {
        Deque<Conditional> open = new ArrayDeque<>();
        List<Token> group = new ArrayList<>();
        for (List<Token> line : lines(file)) {
            boolean isDirective = !line.isEmpty() && line.get(0).is("#");
            boolean skipped = !open.isEmpty() && (open.peek().skips || open.peek().whole);
            if (skipped && !isObeyed(line, isDirective, open)) {
                continue;
            }
            if (!isDirective) {
                group.addAll(line);
                continue;
            }
            endGroup(group);
            obey(line, open, filesOpen);
        }
        endGroup(group);
        if (!open.isEmpty()) {
            throw new Fault(PhaseReader.CONDITION);
        }
    }

    /** Whether a skipped line is the else or endif of a conditional that is not skipped whole. */
    private static boolean isObeyed(List<Token> line, boolean isDirective, Deque<Conditional> open) {
        String word = isDirective && line.size() > 1 ? line.get(1).text() : "";
        if (word.equals("ifdef") || word.equals("ifndef")) {
            Conditional whole = new Conditional();
            whole.whole = true;
            open.push(whole);
            return false;
        }
        if (open.peek().whole) {
            if (word.equals("endif")) {
                open.pop();
            }
            return false;
        }
        return word.equals("else") || word.equals("endif");
    }

    private void endGroup(List<Token> group) {
        out.addAll(expand(group));
        group.clear();
        if (out.size() > 100) {
            throw new Fault(PhaseReader.ROOM);
        }
    }

    private void obey(List<Token> line, Deque<Conditional> open, int filesOpen) {
        StringBuilder spelled = new StringBuilder();
        line.forEach(token -> spelled.append(spelled.length() == 0 ? "" : " ").append(token.text()));
        String text = spelled.toString();
        if (text.matches("# define " + NAME + "( .*)?")) {
            define(line);
        } else if (text.matches("# undef " + NAME)) {
            macros.remove(line.get(2).text());
        } else if (text.matches("# (ifdef|ifndef) " + NAME)) {
            Conditional made = new Conditional();
            made.skips = macros.containsKey(line.get(2).text()) == line.get(1).is("ifndef");
            open.push(made);
        } else if (text.matches("# (else|endif)")) {
            endPart(line.get(1).is("else"), open);
        } else if (text.matches("# include < [012] >")) {
            if (filesOpen >= 4 || includes >= 10) {
                throw new Fault(PhaseReader.NESTING);
            }
            includes++;
            goThrough(Integer.parseInt(line.get(3).text()), filesOpen + 1);
        } else if (!text.equals("#")) {
            throw new Fault(PhaseReader.DIRECTIVE);
        }
    }

    private static void endPart(boolean isElse, Deque<Conditional> open) {
        if (open.isEmpty() || isElse && open.peek().elseSeen) {
            throw new Fault(PhaseReader.CONDITION);
        }
        if (!isElse) {
            open.pop();
            return;
        }
        open.peek().elseSeen = true;
        open.peek().skips = !open.peek().skips;
    }

    private void define(List<Token> line) {
        String name = line.get(2).text();
        List<String> parameters = new ArrayList<>();
        int at = 3;
        boolean isCall = line.size() > 3 && line.get(3).is("(") && line.get(3).glued();
        if (isCall) {
            at = takeParameters(line, parameters);
        }
        List<String> body = new ArrayList<>();
        line.subList(at, line.size()).forEach(token -> body.add(token.text()));
        String between = " " + String.join(" ", body) + " ";
        if (between.startsWith(" ## ") || between.endsWith(" ## ") || between.contains(" ## ## ")) {
            throw new Fault(PhaseReader.DIRECTIVE);
        }
        if (macros.containsKey(name)) {
            throw new Fault(PhaseReader.REDEFINED);
        }
        if (parameters.size() > 3 || body.size() > 12 || macros.size() >= 8) {
            throw new Fault(PhaseReader.ROOM);
        }
        macros.put(name, new Macro(isCall, parameters, body));
    }

    /** Answers where the body begins. */
    private static int takeParameters(List<Token> line, List<String> parameters) {
        StringBuilder spelled = new StringBuilder();
        line.subList(4, line.size()).forEach(token -> spelled.append(token.text()).append(' '));
        Matcher list = Pattern.compile("(" + NAME + " (, " + NAME + " )*)?[)] ").matcher(spelled);
        if (!list.lookingAt()) {
            throw new Fault(PhaseReader.DIRECTIVE);
        }
        String inside = list.group().replace(")", "").trim();
        for (String parameter : inside.isEmpty() ? new String[0] : inside.split(" , ")) {
            if (parameters.contains(parameter)) {
                throw new Fault(PhaseReader.DIRECTIVE);
            }
            parameters.add(parameter);
        }
        return 4 + list.group().trim().split(" ").length;
    }

    private List<Token> expand(List<Token> given) {
        List<Token> rest = new ArrayList<>(given);
        List<Token> done = new ArrayList<>();
        while (!rest.isEmpty()) {
            Token first = rest.get(0);
            Macro macro = macros.get(first.text());
            boolean opens = rest.size() > 1 && rest.get(1).is("(");
            if (macro == null || first.hide().contains(first.text()) || macro.isCall() && !opens) {
                done.add(rest.remove(0));
            } else {
                replace(macro, rest);
            }
        }
        return done;
    }

    private void replace(Macro macro, List<Token> rest) {
        Token name = rest.get(0);
        Set<String> hide = new HashSet<>(name.hide());
        List<List<Token>> arguments = new ArrayList<>();
        int close = 0;
        if (macro.isCall()) {
            close = closing(rest);
            arguments = arguments(macro, rest.subList(2, close));
            hide.retainAll(rest.get(close).hide());
        }
        hide.add(name.text());
        if (replaced >= 30) {
            throw new Fault(PhaseReader.ROOM);
        }
        replaced++;
        List<List<Token>> expanded = new ArrayList<>();
        for (List<Token> argument : arguments) {
            List<Token> list = expand(argument);
            if (list.size() > 40) {
                throw new Fault(PhaseReader.ROOM);
            }
            expanded.add(list);
        }
        List<Token> replacement = replacement(macro, arguments, expanded, name.place());
        if (replacement.size() > 40) {
            throw new Fault(PhaseReader.ROOM);
        }
        rest.subList(0, close + 1).clear();
        for (int i = 0; i < replacement.size(); i++) {
            Token token = replacement.get(i);
            Set<String> more = new HashSet<>(token.hide());
            more.addAll(hide);
            rest.add(i, new Token(token.text(), token.place(), more, false));
        }
    }

    private static int closing(List<Token> rest) {
        int depth = 0;
        for (int i = 1; i < rest.size(); i++) {
            depth += rest.get(i).is("(") ? 1 : rest.get(i).is(")") ? -1 : 0;
            if (depth == 0) {
                return i;
            }
        }
        throw new Fault(PhaseReader.CALL);
    }

    private static List<List<Token>> arguments(Macro macro, List<Token> between) {
        List<List<Token>> arguments = new ArrayList<>();
        if (!between.isEmpty() || !macro.parameters().isEmpty()) {
            arguments.add(new ArrayList<>());
        }
        int depth = 0;
        for (Token token : between) {
            depth += token.is("(") ? 1 : token.is(")") ? -1 : 0;
            if (token.is(",") && depth == 0) {
                arguments.add(new ArrayList<>());
            } else {
                arguments.get(arguments.size() - 1).add(token);
            }
        }
        if (arguments.size() != macro.parameters().size()) {
            throw new Fault(PhaseReader.CALL);
        }
        if (between.size() > 40) {
            throw new Fault(PhaseReader.ROOM);
        }
        return arguments;
    }

    private static List<Token> replacement(Macro macro, List<List<Token>> arguments, List<List<Token>> expanded,
        int place) {
        List<String> body = macro.body();
        List<Token> replacement = new ArrayList<>();
        for (int i = 0; i < body.size(); i++) {
            List<Token> chain = new ArrayList<>(row(macro, i, arguments, expanded, place));
            while (i + 1 < body.size() && body.get(i + 1).equals("##")) {
                i += 2;
                join(chain, row(macro, i, arguments, expanded, place), place);
            }
            replacement.addAll(chain);
        }
        return replacement;
    }

    private static List<Token> row(Macro macro, int i, List<List<Token>> arguments, List<List<Token>> expanded,
        int place) {
        List<String> body = macro.body();
        int parameter = macro.parameters().indexOf(body.get(i));
        if (parameter < 0) {
            return List.of(new Token(body.get(i), place, Set.of(), false));
        }
        boolean pasted = i > 0 && body.get(i - 1).equals("##") || i + 1 < body.size() && body.get(i + 1).equals("##");
        return (pasted ? arguments : expanded).get(parameter);
    }

    private static void join(List<Token> chain, List<Token> row, int place) {
        if (chain.isEmpty() || row.isEmpty()) {
            chain.addAll(row);
            return;
        }
        Token left = chain.remove(chain.size() - 1);
        Token right = row.get(0);
        String text = left.text() + right.text();
        if (!TOKEN.matcher(text).matches() || text.length() > 9) {
            throw new Fault(PhaseReader.PASTE);
        }
        Set<String> hide = new HashSet<>(left.hide());
        hide.retainAll(right.hide());
        chain.add(new Token(text, place, hide, false));
        chain.addAll(row.subList(1, row.size()));
    }
}
