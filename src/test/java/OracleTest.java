import java.util.List;

/** Many made texts, several for each shell: LooseShell must answer what the oracle answers. */
public final class OracleTest {
    private static final int SHELLS = 20000, RUNS = 6;
    /** What an object answers is promised for so many calls; a comparison makes at most 110 of them. */
    private static final int CALLS = 512, COMPARISON = 110;
    private static final int[] TICKS = {400, 400, 400, 60, 20, -5, 1000};

    public static void main(String[] args) {
        int shells = args.length > 0 ? Integer.parseInt(args[0]) : SHELLS;
        long firstSeed = args.length > 1 ? Long.parseLong(args[1]) : 0;
        Checks checks = new Checks("OracleTest");
        int[] codes = new int[10];
        for (int i = 0; i < shells; i++) {
            Maker maker = new Maker(firstSeed + i);
            int ticks = TICKS[maker.below(TICKS.length)];
            LooseShell shell = new LooseShell(ticks);
            Oracle oracle = new Oracle(ticks);
            int calls = 0;
            for (int run = 0; run < RUNS; run++) {
                List<Oracle.Token> text = run == 0 ? maker.makeGlobals() : maker.make();
                calls += text.size() + COMPARISON;
                if (calls > CALLS) {
                    break;
                }
                String where = "seed " + (firstSeed + i) + " run " + run + ": ";
                int code = oracle.run(text);
                codes[code]++;
                put(shell, text);
                checks.same(where + "run of " + written(text), shell.run(), code);
                compare(checks, where, shell, oracle);
            }
        }
        for (int code = 0; code < codes.length; code++) {
            System.out.println("runs with code " + code + ": " + codes[code]);
            checks.same("some run with code " + code, codes[code] > 0, true);
        }
        checks.end();
    }

    private static void put(LooseShell shell, List<Oracle.Token> text) {
        for (Oracle.Token token : text) {
            if (token.code == Oracle.NAME) {
                shell.name(token.value);
            } else if (token.code == Oracle.NUMBER || token.code == Oracle.WIDE) {
                shell.number(token.value, token.code == Oracle.WIDE);
            } else {
                shell.word(token.code);
            }
        }
    }

    private static void compare(Checks checks, String where, LooseShell shell, Oracle oracle) {
        checks.same(where + "errorAt", shell.errorAt(), oracle.errorAt);
        checks.same(where + "outputs", shell.outputs(), oracle.outputs.size());
        for (int i = 0; i <= oracle.outputs.size(); i++) {
            Oracle.Value value = i < oracle.outputs.size() ? oracle.outputs.get(i) : null;
            checks.same(where + "outputKind " + i, shell.outputKind(i), value == null ? -1 : value.kind);
            checks.same(where + "outputValue " + i, shell.outputValue(i), value == null ? 0 : value.number);
        }
        Oracle.Value result = oracle.result;
        checks.same(where + "resultKind", shell.resultKind(), result == null ? -1 : result.kind);
        checks.same(where + "resultValue", shell.resultValue(), result == null ? 0 : result.number);
        for (int n = 0; n < 16; n++) {
            Oracle.Variable global = oracle.globals.get(n);
            int kind = global == null ? -1 : global.value.kind + (global.declared == 5 ? 0 : 8);
            checks.same(where + "globalKind " + n, shell.globalKind(n), kind);
            checks.same(where + "globalValue " + n, shell.globalValue(n), global == null ? 0 : global.value.number);
        }
        checks.same(where + "methods", shell.methods(), oracle.methods.size());
    }

    private static String written(List<Oracle.Token> text) {
        StringBuilder line = new StringBuilder();
        for (Oracle.Token token : text) {
            if (token.code == Oracle.NAME) {
                line.append((char) ('a' + token.value));
            } else if (token.code == Oracle.NUMBER || token.code == Oracle.WIDE) {
                line.append(token.value).append(token.code == Oracle.WIDE ? "L" : "");
            } else {
                line.append(Script.WORDS[token.code]);
            }
            line.append(' ');
        }
        return line.toString();
    }
}
