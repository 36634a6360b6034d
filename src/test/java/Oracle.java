import java.util.ArrayList;
import java.util.HashMap;
import java.util.HashSet;
import java.util.List;
import java.util.Map;
import java.util.Set;

/**
 * A second shell, written from the document in another way: it reads by recursive descent into a tree, walks the
 * tree, and finds variables in maps at run time. What it answers is compared with what LooseShell answers.
 */
final class Oracle {
    static final int NAME = 54, NUMBER = 55, WIDE = 56, END = 57;

    static final class Token {
        final int code;
        final int value;

        Token(int code, int value) {
            this.code = code;
            this.value = value;
        }
    }

    /** An error, at reading or at running. */
    static final class Stop extends RuntimeException {
        private static final long serialVersionUID = 1L;
        final int code;
        final int place;

        Stop(int code, int place) {
            super(null, null, false, false);
            this.code = code;
            this.place = place;
        }
    }

    static final class Value {
        final int kind;
        final long number;

        Value(int kind, long number) {
            this.kind = kind;
            this.number = number;
        }

        boolean numeric() {
            return kind != 0;
        }
    }

    static final class Variable {
        int declared;
        Value value;

        Variable(int declared, Value value) {
            this.declared = declared;
            this.value = value;
        }
    }

    interface Expression {
        Value value();
    }

    interface Statement {
        /** Answers null to go on, or how the statement was left. */
        Leaving execute();
    }

    static final class Leaving {
        static final Leaving BREAK = new Leaving(null), CONTINUE = new Leaving(null);
        final Value value;

        Leaving(Value value) {
            this.value = value;
        }
    }

    static final class Method {
        int place;
        int kind;
        int name;
        int tokens;
        List<Integer> kinds = new ArrayList<>();
        List<Integer> names = new ArrayList<>();
        Statement body;
    }

    final int ticks;
    final Map<Integer, Variable> globals = new HashMap<>();
    final List<Method> methods = new ArrayList<>();
    final List<Value> outputs = new ArrayList<>();
    Value result;
    int errorAt = -1;
    private int executedTokens;
    private int ticksLeft;
    private int calls;
    private List<Map<Integer, Variable>> scopes = new ArrayList<>();

    private List<Token> text;
    private int at;
    private int expressionStart;
    private int whiles;
    private Method reading;
    private final List<Set<Integer>> open = new ArrayList<>();

    Oracle(int ticks) {
        this.ticks = Math.max(20, Math.min(400, ticks));
    }

    int run(List<Token> tokens) {
        text = tokens;
        at = 0;
        outputs.clear();
        result = null;
        errorAt = -1;
        open.clear();
        whiles = 0;
        reading = null;
        expressionStart = -1;
        try {
            List<Statement> items = new ArrayList<>();
            while (word() != END) {
                items.add(item());
            }
            ticksLeft = ticks;
            calls = 0;
            scopes = new ArrayList<>();
            for (Statement item : items) {
                item.execute();
            }
            return LooseShell.OK;
        } catch (Stop stop) {
            errorAt = stop.place;
            return stop.code;
        }
    }

    // ---- reading ----

    private int word() {
        return wordAfter(0);
    }

    private int wordAfter(int n) {
        return at + n < text.size() ? text.get(at + n).code : END;
    }

    private Stop faulty() {
        return new Stop(LooseShell.SYNTAX, at);
    }

    private int take() {
        if (word() == END || (expressionStart >= 0 && at - expressionStart >= 32)) {
            throw faulty();
        }
        return text.get(at++).value;
    }

    private int take(String word) {
        if (!is(word)) {
            throw faulty();
        }
        take();
        return at - 1;
    }

    private boolean is(String word) {
        return word() == Script.codeOf(word);
    }

    private boolean isKind() {
        return word() <= 5;
    }

    private int takeKind() {
        if (!isKind()) {
            throw faulty();
        }
        int kind = word();
        take();
        return kind;
    }

    private Statement item() {
        if (isKind() && wordAfter(1) == NAME && wordAfter(2) == Script.codeOf("(")) {
            return method();
        }
        if (isKind()) {
            int place = at;
            Statement declaration = declaration();
            return () -> {
                tick(place);
                return declaration.execute();
            };
        }
        if (isStatementWord()) {
            return statement();
        }
        int place = at;
        Expression expression = fullExpression();
        take(";");
        return () -> {
            tick(place);
            result = expression.value();
            return null;
        };
    }

    private boolean isStatementWord() {
        for (String word : new String[] {";", "{", "if", "while", "break", "continue", "return", "print"}) {
            if (is(word)) {
                return true;
            }
        }
        return false;
    }

    private void addLocal(int name) {
        int all = 0;
        for (Set<Integer> scope : open) {
            all += scope.size();
        }
        if (all >= 8 || !open.get(open.size() - 1).add(name)) {
            throw faulty();
        }
    }

    private Statement method() {
        Method method = new Method();
        method.place = at;
        method.kind = takeKind();
        method.name = take();
        take("(");
        open.add(new HashSet<>());
        if (!is(")")) {
            parameter(method);
            while (is(",") && method.kinds.size() < 3) {
                take();
                parameter(method);
            }
        }
        take(")");
        reading = method;
        int outer = whiles;
        whiles = 0;
        method.body = block();
        whiles = outer;
        reading = null;
        open.remove(open.size() - 1);
        method.tokens = at - method.place;
        return () -> {
            tick(method.place);
            define(method);
            return null;
        };
    }

    private void parameter(Method method) {
        method.kinds.add(takeKind());
        if (word() != NAME) {
            throw faulty();
        }
        addLocal(text.get(at).value);
        method.names.add(take());
    }

    private Statement declaration() {
        int kind = takeKind();
        if (word() != NAME) {
            throw faulty();
        }
        boolean local = !open.isEmpty();
        if (local) {
            addLocal(text.get(at).value);
        }
        int name = take();
        int place = at;
        Expression expression = null;
        boolean constant = false;
        if (is("=")) {
            take();
            int start = at;
            expression = fullExpression();
            constant = isConstant(start);
        }
        take(";");
        Expression initial = expression;
        boolean literal = constant;
        return () -> {
            if (local) {
                scopes.get(scopes.size() - 1).put(name, new Variable(kind, zero(kind)));
            }
            Value value = initial == null ? zero(kind) : converted(initial.value(), kind, literal, place);
            if (local) {
                scopes.get(scopes.size() - 1).get(name).value = value;
            } else {
                globals.put(name, new Variable(kind, value));
            }
            return null;
        };
    }

    private boolean isConstant(int start) {
        for (int i = start; i < at; i++) {
            if (text.get(i).code == NAME) {
                return false;
            }
        }
        return true;
    }

    private Statement block() {
        take("{");
        open.add(new HashSet<>());
        List<Statement> parts = new ArrayList<>();
        while (!is("}")) {
            parts.add(isKind() ? declaration() : statement());
        }
        take("}");
        open.remove(open.size() - 1);
        return () -> {
            scopes.add(new HashMap<>());
            Leaving leaving = null;
            for (int i = 0; i < parts.size() && leaving == null; i++) {
                leaving = parts.get(i).execute();
            }
            scopes.remove(scopes.size() - 1);
            return leaving;
        };
    }

    private Statement statement() {
        int place = at;
        Statement inner = bareStatement();
        return () -> {
            tick(place);
            return inner.execute();
        };
    }

    private Statement bareStatement() {
        if (is(";")) {
            take();
            return () -> null;
        } else if (is("{")) {
            return block();
        } else if (is("if")) {
            return ifStatement();
        } else if (is("while")) {
            return whileStatement();
        } else if (is("break") || is("continue")) {
            if (whiles == 0) {
                throw faulty();
            }
            Leaving leaving = is("break") ? Leaving.BREAK : Leaving.CONTINUE;
            take();
            take(";");
            return () -> leaving;
        } else if (is("return")) {
            return returnStatement();
        } else if (is("print")) {
            int place = at;
            Expression expression = header();
            take(";");
            return () -> {
                Value value = expression.value();
                if (outputs.size() >= 32) {
                    throw new Stop(LooseShell.FULL, place);
                }
                outputs.add(value);
                return null;
            };
        }
        Expression expression = fullExpression();
        take(";");
        return () -> {
            expression.value();
            return null;
        };
    }

    private Expression header() {
        take();
        take("(");
        Expression expression = fullExpression();
        take(")");
        return expression;
    }

    private boolean holds(Expression condition, int place) {
        Value value = condition.value();
        if (value.numeric()) {
            throw new Stop(LooseShell.KIND, place);
        }
        return value.number == 1;
    }

    private Statement ifStatement() {
        int place = at;
        Expression condition = header();
        Statement first = statement();
        Statement second = null;
        if (is("else")) {
            take();
            second = statement();
        }
        Statement other = second;
        return () -> {
            if (holds(condition, place)) {
                return first.execute();
            }
            return other == null ? null : other.execute();
        };
    }

    private Statement whileStatement() {
        int place = at;
        Expression condition = header();
        whiles++;
        Statement body = statement();
        whiles--;
        return () -> {
            while (holds(condition, place)) {
                Leaving leaving = body.execute();
                if (leaving == Leaving.BREAK) {
                    return null;
                }
                if (leaving != null && leaving != Leaving.CONTINUE) {
                    return leaving;
                }
            }
            return null;
        };
    }

    private Statement returnStatement() {
        if (reading == null) {
            throw faulty();
        }
        int kind = reading.kind;
        int place = at;
        take();
        if (is(";")) {
            take();
            return () -> new Leaving(zero(kind));
        }
        int start = at;
        Expression expression = fullExpression();
        boolean constant = isConstant(start);
        take(";");
        return () -> new Leaving(converted(expression.value(), kind, constant, place));
    }

    private Expression fullExpression() {
        expressionStart = at;
        Expression expression = expression();
        expressionStart = -1;
        return expression;
    }

    private static boolean isAssign(int word) {
        return word == 21 || (word >= 43 && word <= 53);
    }

    private Expression expression() {
        if (word() != NAME || !isAssign(wordAfter(1))) {
            return binary(0);
        }
        int namePlace = at;
        int name = take();
        int sign = at;
        int word = word();
        take();
        int start = at;
        Expression right = expression();
        boolean constant = isConstant(start);
        if (word == 21) {
            return () -> assign(name, right.value(), constant, sign);
        }
        return () -> {
            Value old = read(name, namePlace);
            Value result = operate(word - 19, old, right.value(), sign);
            Variable variable = find(name);
            if (variable.declared != 5) {
                result = cast(result, variable.declared, sign);
            }
            variable.value = result;
            return result;
        };
    }

    private Value assign(int name, Value value, boolean constant, int sign) {
        Variable variable = find(name);
        if (variable == null) {
            globals.put(name, new Variable(5, value));
            return value;
        }
        variable.value = converted(value, variable.declared, constant, sign);
        return variable.value;
    }

    private static final String[] LEVELS = {
        "||", "&&", "|", "^", "&", "== !=", "< <= > >=", "<< >> >>>", "+ -", "* / %",
    };

    private boolean isOfLevel(int level) {
        for (String word : LEVELS[level].split(" ")) {
            if (is(word)) {
                return true;
            }
        }
        return false;
    }

    private Expression binary(int level) {
        if (level == LEVELS.length) {
            return unary();
        }
        Expression left = binary(level + 1);
        while (isOfLevel(level)) {
            int place = at;
            int word = word();
            take();
            Expression first = left;
            Expression second = binary(level + 1);
            if (level < 2) {
                left = () -> shortcut(first, second, level == 0 ? 1 : 0, place);
            } else {
                left = () -> {
                    Value one = first.value();
                    return operate(word, one, second.value(), place);
                };
            }
        }
        return left;
    }

    private Value shortcut(Expression first, Expression second, long deciding, int place) {
        Value value = first.value();
        if (value.numeric()) {
            throw new Stop(LooseShell.KIND, place);
        }
        if (value.number == deciding) {
            return value;
        }
        value = second.value();
        if (value.numeric()) {
            throw new Stop(LooseShell.KIND, place);
        }
        return value;
    }

    private Expression unary() {
        int place = at;
        int word = word();
        if (is("+") || is("-") || is("~") || is("!")) {
            take();
            Expression inner = unary();
            return () -> prefix(word, inner.value(), place);
        }
        if (is("(") && wordAfter(1) <= 5) {
            take();
            if (is("var")) {
                throw faulty();
            }
            int kind = takeKind();
            take(")");
            Expression inner = unary();
            return () -> cast(inner.value(), kind, place);
        }
        return primary();
    }

    private Expression primary() {
        int place = at;
        int word = word();
        if (word == NUMBER || word == WIDE) {
            Value value = new Value(word == WIDE ? 4 : 3, take());
            return () -> value;
        } else if (is("true") || is("false")) {
            Value value = new Value(0, is("true") ? 1 : 0);
            take();
            return () -> value;
        } else if (is("(")) {
            take();
            Expression inner = expression();
            take(")");
            return inner;
        } else if (word != NAME) {
            throw faulty();
        }
        int name = take();
        if (!is("(")) {
            return () -> read(name, place);
        }
        take();
        List<Expression> arguments = new ArrayList<>();
        if (!is(")")) {
            arguments.add(expression());
            while (is(",") && arguments.size() < 3) {
                take();
                arguments.add(expression());
            }
        }
        take(")");
        return () -> call(name, arguments, place);
    }

    // ---- running ----

    private void tick(int place) {
        if (ticksLeft == 0) {
            throw new Stop(LooseShell.BUDGET, place);
        }
        ticksLeft--;
    }

    private static Value zero(int kind) {
        return new Value(kind == 5 ? 3 : kind, 0);
    }

    private Variable find(int name) {
        for (int i = scopes.size() - 1; i >= 0; i--) {
            Variable variable = scopes.get(i).get(name);
            if (variable != null) {
                return variable;
            }
        }
        return globals.get(name);
    }

    private Value read(int name, int place) {
        Variable variable = find(name);
        if (variable == null) {
            throw new Stop(LooseShell.UNDEFINED, place);
        }
        return variable.value;
    }

    private static boolean fits(int from, int to) {
        switch (to) {
            case 5: return true;
            case 4: return from == 1 || from == 2 || from == 3 || from == 4;
            case 3: return from == 1 || from == 2 || from == 3;
            default: return from == to;
        }
    }

    private static Value converted(Value value, int kind, boolean constant, int place) {
        if (kind == 5) {
            return value;
        }
        if (fits(value.kind, kind)) {
            return new Value(kind, value.number);
        }
        boolean narrow = value.kind >= 1 && value.kind <= 3 && constant;
        if (narrow && kind == 1 && (byte) value.number == value.number) {
            return new Value(1, value.number);
        }
        if (narrow && kind == 2 && (char) value.number == value.number) {
            return new Value(2, value.number);
        }
        throw new Stop(LooseShell.KIND, place);
    }

    private static Value cast(Value value, int kind, int place) {
        if (value.numeric() != (kind != 0)) {
            throw new Stop(LooseShell.KIND, place);
        }
        switch (kind) {
            case 1: return new Value(1, (byte) value.number);
            case 2: return new Value(2, (char) value.number);
            case 3: return new Value(3, (int) value.number);
            default: return new Value(kind, value.number);
        }
    }

    private static Value prefix(int word, Value value, int place) {
        boolean not = word == Script.codeOf("!");
        if (not == value.numeric()) {
            throw new Stop(LooseShell.KIND, place);
        }
        if (not) {
            return new Value(0, value.number == 0 ? 1 : 0);
        }
        if (value.kind == 4) {
            long v = value.number;
            return new Value(4, word == 25 ? -v : word == 23 ? ~v : v);
        }
        int v = (int) value.number;
        return new Value(3, word == 25 ? -v : word == 23 ? ~v : v);
    }

    private static Value truth(boolean b) {
        return new Value(0, b ? 1 : 0);
    }

    private static Value operate(int word, Value left, Value right, int place) {
        String sign = Script.WORDS[word];
        if (!left.numeric() && !right.numeric()) {
            boolean a = left.number == 1;
            boolean b = right.number == 1;
            switch (sign) {
                case "==": return truth(a == b);
                case "!=": return truth(a != b);
                case "&": return truth(a && b);
                case "|": return truth(a || b);
                case "^": return truth(a != b);
                default: throw new Stop(LooseShell.KIND, place);
            }
        }
        if (!left.numeric() || !right.numeric()) {
            throw new Stop(LooseShell.KIND, place);
        }
        long a = left.number;
        long b = right.number;
        switch (sign) {
            case "==": return truth(a == b);
            case "!=": return truth(a != b);
            case "<": return truth(a < b);
            case "<=": return truth(a <= b);
            case ">": return truth(a > b);
            case ">=": return truth(a >= b);
            case "<<": return left.kind == 4 ? new Value(4, a << b) : new Value(3, (int) a << b);
            case ">>": return left.kind == 4 ? new Value(4, a >> b) : new Value(3, (int) a >> b);
            case ">>>": return left.kind == 4 ? new Value(4, a >>> b) : new Value(3, (int) a >>> b);
            default: break;
        }
        if (b == 0 && (sign.equals("/") || sign.equals("%"))) {
            throw new Stop(LooseShell.ZERO, place);
        }
        return left.kind == 4 || right.kind == 4
            ? new Value(4, inLong(sign, a, b)) : new Value(3, inInt(sign, (int) a, (int) b));
    }

    private static long inLong(String sign, long a, long b) {
        switch (sign) {
            case "+": return a + b;
            case "-": return a - b;
            case "*": return a * b;
            case "/": return a / b;
            case "%": return a % b;
            case "&": return a & b;
            case "|": return a | b;
            default: return a ^ b;
        }
    }

    private static int inInt(String sign, int a, int b) {
        switch (sign) {
            case "+": return a + b;
            case "-": return a - b;
            case "*": return a * b;
            case "/": return a / b;
            case "%": return a % b;
            case "&": return a & b;
            case "|": return a | b;
            default: return a ^ b;
        }
    }

    private void define(Method method) {
        int same = -1;
        for (int i = 0; i < methods.size(); i++) {
            if (methods.get(i).name == method.name && methods.get(i).kinds.equals(method.kinds)) {
                same = i;
            }
        }
        if ((same < 0 && methods.size() == 8) || executedTokens + method.tokens > 240) {
            throw new Stop(LooseShell.FULL, method.place);
        }
        executedTokens += method.tokens;
        if (same >= 0) {
            methods.set(same, method);
        } else {
            methods.add(method);
        }
    }

    private static boolean allFit(List<Integer> from, List<Integer> to) {
        boolean fit = true;
        for (int i = 0; i < to.size(); i++) {
            fit = fit && fits(from.get(i), to.get(i)) && (from.get(i) != 5 || to.get(i) == 5);
        }
        return fit;
    }

    private Value call(int name, List<Expression> arguments, int place) {
        List<Value> values = new ArrayList<>();
        List<Integer> kinds = new ArrayList<>();
        for (Expression argument : arguments) {
            Value value = argument.value();
            values.add(value);
            kinds.add(value.kind);
        }
        List<Method> fitting = new ArrayList<>();
        for (Method method : methods) {
            if (method.name == name && method.kinds.size() == kinds.size() && allFit(kinds, method.kinds)) {
                fitting.add(method);
            }
        }
        if (fitting.isEmpty()) {
            throw new Stop(LooseShell.NO_METHOD, place);
        }
        Method chosen = null;
        for (Method method : fitting) {
            boolean best = true;
            for (Method other : fitting) {
                best = best && (other == method || allFit(method.kinds, other.kinds));
            }
            if (best) {
                chosen = method;
            }
        }
        if (chosen == null) {
            throw new Stop(LooseShell.AMBIGUOUS, place);
        }
        if (calls == 8) {
            throw new Stop(LooseShell.DEEP, place);
        }
        tick(place);
        return enter(chosen, values);
    }

    private Value enter(Method method, List<Value> values) {
        List<Map<Integer, Variable>> caller = scopes;
        scopes = new ArrayList<>();
        scopes.add(new HashMap<>());
        for (int i = 0; i < values.size(); i++) {
            int kind = method.kinds.get(i);
            Value value = values.get(i);
            Value given = kind == 5 ? value : new Value(kind, value.number);
            scopes.get(0).put(method.names.get(i), new Variable(kind, given));
        }
        calls++;
        Leaving leaving = method.body.execute();
        calls--;
        scopes = caller;
        return leaving == null ? zero(method.kind) : leaving.value;
    }
}
