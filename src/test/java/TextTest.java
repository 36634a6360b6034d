/** Promises 2, 3 and 4: what may be put at the end of the text. */
public final class TextTest {
    private static final int INT = LooseShell.INT, LONG = LooseShell.LONG;

    public static void main(String[] args) {
        Checks checks = new Checks("TextTest");
        names(checks);
        numbers(checks);
        words(checks);
        fullText(checks);
        refusedTokensChangeNothing(checks);
        checks.end();
    }

    private static void names(Checks checks) {
        LooseShell shell = new LooseShell(400);
        int[] wrong = {-1, 16, Integer.MIN_VALUE, Integer.MAX_VALUE};
        for (int n : wrong) {
            checks.same("name(" + n + ")", shell.name(n), false);
        }
        for (int n = 0; n < 16; n++) {
            checks.same("name(" + n + ")", shell.name(n), true);
            shell.word(Script.codeOf("="));
            shell.number(n + 100, false);
            shell.word(Script.codeOf(";"));
        }
        checks.same("run", shell.run(), LooseShell.OK);
        for (int n = 0; n < 16; n++) {
            checks.same("globalValue(" + n + ")", shell.globalValue(n), n + 100);
        }
    }

    private static void numbers(Checks checks) {
        int[] values = {0, 1, -1, 200, Integer.MIN_VALUE, Integer.MAX_VALUE};
        for (int value : values) {
            for (int wide = 0; wide < 2; wide++) {
                Script script = new Script();
                checks.same("number(" + value + ")", script.shell.number(value, wide == 1), true);
                script.run(";");
                checks.result(script, "number " + value, wide == 1 ? LONG : INT, value);
            }
        }
    }

    private static void words(Checks checks) {
        LooseShell shell = new LooseShell(400);
        int[] wrong = {-1, 54, 55, 56, 57, 100, Integer.MIN_VALUE, Integer.MAX_VALUE};
        for (int w : wrong) {
            checks.same("word(" + w + ")", shell.word(w), false);
        }
        checks.same("run of nothing", shell.run(), LooseShell.OK);
        for (int w = 0; w <= 53; w++) {
            checks.same("word(" + w + ")", shell.word(w), true);
        }
        checks.same("run of all words", shell.run(), LooseShell.SYNTAX);
        checks.same("its place", shell.errorAt(), 1);
    }

    private static void fullText(Checks checks) {
        LooseShell shell = new LooseShell(400);
        for (int i = 0; i < 140; i++) {
            checks.same("word " + i, shell.word(Script.codeOf(";")), true);
        }
        checks.same("141st: word", shell.word(Script.codeOf("}")), false);
        checks.same("141st: name", shell.name(0), false);
        checks.same("141st: number", shell.number(5, false), false);
        checks.same("141st: wide number", shell.number(5, true), false);
        checks.same("run of 140 tokens", shell.run(), LooseShell.OK);
        checks.same("word after the run", shell.word(Script.codeOf(";")), true);
    }

    private static void refusedTokensChangeNothing(Checks checks) {
        Script script = new Script();
        script.put("a = ");
        script.shell.name(16);
        script.shell.word(54);
        script.shell.word(-1);
        checks.gives(script, "7 ;", INT, 7);
    }
}
