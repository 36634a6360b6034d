import java.util.ArrayList;
import java.util.List;

/** Makes texts that are often right and sometimes not, the same ones for the same seed. */
final class Maker {
    private static final int[] EDGES = {
        0, 1, 2, 3, 5, 7, 31, 32, 33, 63, 64, 127, 128, 255, 65535, 65536, -1, -128, -129,
        Integer.MAX_VALUE, Integer.MIN_VALUE,
    };
    private static final String[] NUMERIC = {"+", "-", "*", "/", "%", "&", "|", "^", "<<", ">>", ">>>"};
    private static final String[] COMPARING = {"<", "<=", ">", ">=", "==", "!="};
    private static final String[] LOGICAL = {"&&", "||", "&", "|", "^", "==", "!="};
    private static final String[] UPDATES = {"+=", "-=", "*=", "/=", "%=", "&=", "|=", "^=", "<<=", ">>=", ">>>="};

    private long seed;
    private List<Oracle.Token> text;
    private boolean inMethod;
    private int whiles;
    /** How many of the sixteen names are used: few make names meet, many make them miss. */
    private final int names;
    /** Whether most KINDs are int, long or var, and kinds seldom go wrong. */
    private final boolean tame;
    /** The name and the number of parameters of the methods made so far, for calls that find one. */
    private final List<int[]> methods = new ArrayList<>();
    /** The locals of the scopes that are open, the innermost last: most are not declared twice. */
    private final List<List<Integer>> scopes = new ArrayList<>();

    Maker(long seed) {
        this.seed = seed * 0x9E3779B97F4A7C15L + 12345;
        names = 2 + below(rarely(4) ? 14 : 5);
        tame = rarely(2);
    }

    int below(int bound) {
        seed += 0x9E3779B97F4A7C15L;
        long mixed = seed;
        mixed = (mixed ^ (mixed >>> 30)) * 0xBF58476D1CE4E5B9L;
        mixed = (mixed ^ (mixed >>> 27)) * 0x94D049BB133111EBL;
        mixed ^= mixed >>> 31;
        return (int) ((mixed >>> 1) % bound);
    }

    private boolean rarely(int n) {
        return below(n) == 0;
    }

    List<Oracle.Token> make() {
        text = new ArrayList<>();
        inMethod = false;
        whiles = 0;
        scopes.clear();
        int items = 1 + below(8);
        for (int i = 0; i < items && text.size() < 110; i++) {
            item();
        }
        if (rarely(4)) {
            spoil();
        }
        while (text.size() > 140) {
            text.remove(text.size() - 1);
        }
        return text;
    }

    /** Gives most names a value, so that later texts get further. */
    List<Oracle.Token> makeGlobals() {
        text = new ArrayList<>();
        for (int n = 0; n < names; n++) {
            if (!rarely(8)) {
                if (rarely(2)) {
                    kind();
                }
                text.add(new Oracle.Token(Oracle.NAME, n));
                word("=");
                literal(rarely(tame ? 20 : 4));
                word(";");
            }
        }
        return text;
    }

    private void spoil() {
        int times = 1 + below(2);
        for (int i = 0; i < times && !text.isEmpty(); i++) {
            int place = below(text.size());
            switch (below(4)) {
                case 0: text.remove(place); break;
                case 1: text.add(place, anyToken()); break;
                case 2: text.set(place, anyToken()); break;
                default: text = new ArrayList<>(text.subList(0, place)); break;
            }
        }
    }

    private Oracle.Token anyToken() {
        int code = below(58);
        if (code >= 54) {
            return code == 54 ? new Oracle.Token(55, number()) : new Oracle.Token(54, below(names));
        }
        return new Oracle.Token(code, 0);
    }

    private void word(String word) {
        text.add(new Oracle.Token(Script.codeOf(word), 0));
    }

    private void name() {
        text.add(new Oracle.Token(Oracle.NAME, below(names)));
    }

    private int number() {
        return rarely(3) ? EDGES[below(EDGES.length)] : below(12);
    }

    private void kind() {
        text.add(new Oracle.Token(anyKind(), 0));
    }

    private int anyKind() {
        return tame && !rarely(6) ? 3 + below(3) : below(6);
    }

    private void item() {
        int what = below(10);
        if (rarely(12)) {
            family();
        } else if (what < 3) {
            method();
        } else if (what < 5) {
            declaration();
        } else {
            statement(3);
        }
    }

    private void method() {
        int name = below(rarely(3) ? names : 2);
        int parameters = rarely(40) ? 4 : below(4);
        methods.add(new int[] {name, parameters});
        kind();
        text.add(new Oracle.Token(Oracle.NAME, name));
        word("(");
        scopes.add(new ArrayList<>());
        for (int i = 0; i < parameters; i++) {
            if (i > 0) {
                word(",");
            }
            kind();
            newName();
        }
        word(")");
        inMethod = true;
        int outer = whiles;
        whiles = 0;
        block(2);
        whiles = outer;
        inMethod = false;
        scopes.remove(scopes.size() - 1);
    }

    /** Methods of one name and number of parameters, and a call of it. */
    private void family() {
        int name = below(2);
        int parameters = 1 + below(3);
        for (int i = 0; i < 3; i++) {
            methods.add(new int[] {name, parameters});
            word("int");
            text.add(new Oracle.Token(Oracle.NAME, name));
            for (int p = 0; p < parameters; p++) {
                word(p == 0 ? "(" : ",");
                kind();
                text.add(new Oracle.Token(Oracle.NAME, p));
            }
            word(")");
            word("{");
            word("return");
            literal(false);
            word(";");
            word("}");
        }
        call(2);
        word(";");
    }

    private void newName() {
        int name = below(names);
        if (!scopes.isEmpty()) {
            List<Integer> scope = scopes.get(scopes.size() - 1);
            boolean again = rarely(40);
            for (int i = 0; i < 16 && !again && scope.contains(name); i++) {
                name = (name + 1) % 16;
            }
            scope.add(name);
        }
        text.add(new Oracle.Token(Oracle.NAME, name));
    }

    private void declaration() {
        int kind = anyKind();
        text.add(new Oracle.Token(kind, 0));
        newName();
        if (!rarely(4)) {
            word("=");
            fullExpression(3, rarely(8) ? rarely(2) : kind == 0);
        }
        word(";");
    }

    private void block(int depth) {
        word("{");
        scopes.add(new ArrayList<>());
        int parts = below(5);
        for (int i = 0; i < parts; i++) {
            if (rarely(3)) {
                declaration();
            } else {
                statement(depth - 1);
            }
        }
        scopes.remove(scopes.size() - 1);
        word("}");
    }

    private void statement(int depth) {
        switch (below(depth <= 0 ? 6 : 12)) {
            case 0: word(";"); break;
            case 1: print(); break;
            case 2: leaving(); break;
            case 3: case 4: case 5:
                fullExpression(3, rarely(4));
                word(";");
                break;
            case 6: case 7: block(depth); break;
            case 8: case 9:
                header("if");
                statement(depth - 1);
                if (rarely(2)) {
                    word("else");
                    statement(depth - 1);
                }
                break;
            default:
                header("while");
                whiles++;
                statement(depth - 1);
                whiles--;
                break;
        }
    }

    private void header(String word) {
        word(word);
        word("(");
        fullExpression(2, !rarely(10));
        word(")");
    }

    private void print() {
        word("print");
        word("(");
        fullExpression(3, rarely(3));
        word(")");
        word(";");
    }

    private void leaving() {
        if (whiles > 0 && rarely(2) || rarely(30)) {
            word(rarely(2) ? "break" : "continue");
        } else if (inMethod || rarely(30)) {
            word("return");
            if (!rarely(4)) {
                fullExpression(2, rarely(4));
            }
        } else {
            name();
        }
        word(";");
    }

    /** One that stands in no other one; a few are made to be about as long as is allowed. */
    private void fullExpression(int depth, boolean logical) {
        expression(rarely(12) ? depth + 2 : depth, logical);
    }

    private void expression(int depth, boolean logical) {
        if (depth > 0 && rarely(5)) {
            name();
            word(rarely(2) ? "=" : UPDATES[below(UPDATES.length)]);
            expression(depth - 1, logical);
        } else {
            operation(depth, rarely(25) ? !logical : logical);
        }
    }

    private void operation(int depth, boolean logical) {
        int what = below(10);
        if (depth <= 0 || what < 2) {
            literal(logical);
        } else if (what < 4) {
            name();
        } else if (what < 5) {
            word("(");
            expression(depth - 1, logical);
            word(")");
        } else if (what < 6) {
            prefix(depth, logical);
        } else if (what < 7) {
            call(depth);
        } else if (!logical) {
            pair(depth, NUMERIC, false);
        } else if (rarely(2)) {
            pair(depth, COMPARING, false);
        } else {
            pair(depth, LOGICAL, true);
        }
    }

    private void literal(boolean logical) {
        if (logical) {
            word(rarely(2) ? "true" : "false");
        } else {
            text.add(new Oracle.Token(rarely(4) ? Oracle.WIDE : Oracle.NUMBER, number()));
        }
    }

    private void prefix(int depth, boolean logical) {
        if (rarely(2)) {
            word("(");
            text.add(new Oracle.Token(logical ? 0 : 1 + below(rarely(20) ? 5 : 4), 0));
            word(")");
        } else {
            word(logical ? "!" : new String[] {"+", "-", "~"}[below(3)]);
        }
        operation(depth - 1, logical);
    }

    private void call(int depth) {
        int name = below(names);
        int arguments = rarely(30) ? 4 : below(4);
        if (!methods.isEmpty() && !rarely(8)) {
            int[] method = methods.get(below(methods.size()));
            name = method[0];
            arguments = method[1];
        }
        text.add(new Oracle.Token(Oracle.NAME, name));
        word("(");
        for (int i = 0; i < arguments; i++) {
            if (i > 0) {
                word(",");
            }
            expression(depth - 2, rarely(tame ? 30 : 4));
        }
        word(")");
    }

    private void pair(int depth, String[] signs, boolean logical) {
        operation(depth - 1, logical);
        word(signs[below(signs.length)]);
        operation(depth - 1, logical);
    }
}
