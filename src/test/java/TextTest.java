import java.util.function.Predicate;

/** Promises 2, 3 and 4: what may be put at the end of the text, and what is refused. */
public final class TextTest {
    private static final int INT = LooseShell.INT, LONG = LooseShell.LONG;

    public static void main(String[] args) {
        Checks checks = new Checks("TextTest");
        names(checks);
        namesRefused(checks);
        numbers(checks);
        numbersRefused(checks);
        words(checks);
        wordsRefused(checks);
        places(checks);
        checks.end();
    }

    private static void names(Checks checks) {
        checks.sentence("Puts NAME n at the end of the text and answers true");
        LooseShell shell = new LooseShell(400);
        for (int n = 0; n < 16; n++) {
            checks.same("name(" + n + ")", shell.name(n), true);
            shell.word(Script.codeOf("="));
            shell.number(n + 100, false);
            shell.word(Script.codeOf(";"));
        }
        checks.same("run", shell.run(), LooseShell.OK);
        for (int n = 0; n < 16; n++) {
            checks.same("globalValue(" + n + ")", shell.globalValue(n), n + 100);
        }
    }

    private static void namesRefused(Checks checks) {
        checks.sentence("false, and nothing changes, if n is not 0..15 or the text has 140 tokens.");
        int[] wrong = {-1, 16, 17, 54, 140, 255, 256, Integer.MIN_VALUE, Integer.MAX_VALUE};
        for (int n : wrong) {
            changesNothing(checks, "name(" + n + ")", shell -> shell.name(n));
        }
        isThe140th(checks, "name(0)", shell -> shell.name(0));
        isNotThe141st(checks, "name(0)", shell -> shell.name(0));
        isNotThe141st(checks, "name(15)", shell -> shell.name(15));
        isNotThe141st(checks, "name(16)", shell -> shell.name(16));
    }

    private static void numbers(Checks checks) {
        checks.sentence("Puts the NUMBER v at the end of the text, a LONG if wide, else an INT, and answers true");
        int[] values = {0, 1, -1, 127, 128, -129, 200, 65535, 65536, Integer.MIN_VALUE, Integer.MAX_VALUE};
        for (int value : values) {
            for (int wide = 0; wide < 2; wide++) {
                Script script = new Script();
                checks.same("number(" + value + ")", script.shell.number(value, wide == 1), true);
                checks.passes(script, ";");
                checks.result(script, "number " + value, wide == 1 ? LONG : INT, value);
            }
        }
    }

    private static void numbersRefused(Checks checks) {
        checks.sentence("false, and nothing changes, if the text has 140 tokens.");
        isThe140th(checks, "number(5, false)", shell -> shell.number(5, false));
        isThe140th(checks, "number(5, true)", shell -> shell.number(5, true));
        isNotThe141st(checks, "number(5, false)", shell -> shell.number(5, false));
        isNotThe141st(checks, "number(5, true)", shell -> shell.number(5, true));
        isNotThe141st(checks, "number(20, false)", shell -> shell.number(20, false));
    }

    private static void words(Checks checks) {
        checks.sentence("Puts the word with code w at the end of the text and answers true");
        LooseShell shell = new LooseShell(400);
        for (int w = 0; w <= 53; w++) {
            checks.same("word(" + w + ")", shell.word(w), true);
        }
        checks.same("run of all words", shell.run(), LooseShell.SYNTAX);
        checks.same("its place", shell.errorAt(), 1);
        checks.gives("a = 1 ; a >>>= 1 ; a ;", INT, 0);
        checks.passes("boolean a ;");
    }

    private static void wordsRefused(Checks checks) {
        checks.sentence("false, and nothing changes, if w is not 0..53 or the text has 140 tokens.");
        int[] wrong = {-1, 54, 55, 56, 57, 58, 100, 255, 256, Integer.MIN_VALUE, Integer.MAX_VALUE};
        for (int w : wrong) {
            changesNothing(checks, "word(" + w + ")", shell -> shell.word(w));
        }
        isThe140th(checks, "word(17)", shell -> shell.word(17));
        isNotThe141st(checks, "word(0)", shell -> shell.word(0));
        isNotThe141st(checks, "word(53)", shell -> shell.word(53));
        isNotThe141st(checks, "word(54)", shell -> shell.word(54));
    }

    /** A shell of which all that can be asked has an answer of its own. */
    private static Script used() {
        Script script = new Script();
        script.run("int b = 4 ; int f ( ) { } print ( 5 ) ; 6 ; 1 / 0 ;");
        return script;
    }

    /** A call that is refused in the midst of a text: all answers stay, and the text goes on without it. */
    private static void changesNothing(Checks checks, String call, Predicate<LooseShell> refused) {
        Script script = used();
        checks.put(script, "a =");
        String before = script.answers();
        checks.same(call, refused.test(script.shell), false);
        checks.same("the answers after " + call, script.answers(), before);
        checks.gives(script, "7 ;", INT, 7);
    }

    /** The text has room for one token more, and with it ends too early. */
    private static void isThe140th(Checks checks, String call, Predicate<LooseShell> taken) {
        Script script = used();
        checks.put(script, "; ".repeat(139));
        checks.same(call + " as the 140th", taken.test(script.shell), true);
        checks.same("run with " + call + " as the 140th", script.shell.run(), LooseShell.SYNTAX);
        checks.same("errorAt", script.shell.errorAt(), 140);
    }

    /** All of these tokens would be faulty at the end of this text, or in the place of its last one. */
    private static void isNotThe141st(Checks checks, String call, Predicate<LooseShell> refused) {
        Script script = used();
        checks.put(script, "; ".repeat(136) + "a = 7 ;");
        String before = script.answers();
        for (int i = 0; i < 2; i++) {
            checks.same(call + " as the 141st", refused.test(script.shell), false);
        }
        checks.same("the answers after " + call, script.answers(), before);
        checks.gives(script, "", INT, 7);
        checks.same("a token after the run", script.shell.word(Script.codeOf(";")), true);
    }

    private static void places(Checks checks) {
        checks.sentence("The PLACE of a token is the number of tokens before it in the text.");
        checks.run("@) ;", LooseShell.SYNTAX);
        checks.run("@a ;", LooseShell.UNDEFINED);
        checks.run("; ".repeat(139) + "@}", LooseShell.SYNTAX);
        checks.run("; ".repeat(138) + "@a ;", LooseShell.UNDEFINED);
    }
}
