/** Promises 1, 5, 6, 7 to 12: a new object, a run and its answers, and reset. */
public final class ShellTest {
    private static final int BOOLEAN = LooseShell.BOOLEAN, BYTE = LooseShell.BYTE, CHAR = LooseShell.CHAR;
    private static final int INT = LooseShell.INT, LONG = LooseShell.LONG;

    public static void main(String[] args) {
        Checks checks = new Checks("ShellTest");
        Script fresh = new Script();
        fresh(checks, fresh);
        clampedTicks(checks);
        runEmptiesTheText(checks);
        runEmptiesTheAnswers(checks);
        nothingIsExecutedIfFaulty(checks);
        whatWasDoneStaysDone(checks);
        outputs(checks);
        fullOutputs(checks);
        results(checks);
        errorPlaces(checks);
        reset(checks);
        checks.end();
    }

    private static void fresh(Checks checks, Script script) {
        LooseShell shell = script.shell;
        checks.same("outputs", shell.outputs(), 0);
        checks.output(script, 0, -1, 0);
        checks.output(script, -1, -1, 0);
        checks.same("errorAt", shell.errorAt(), -1);
        checks.result(script, "nothing", -1, 0);
        for (int n = -1; n <= 16; n++) {
            checks.global(script, n, -1, 0);
        }
        checks.same("methods", shell.methods(), 0);
        checks.same("run of the empty text", shell.run(), LooseShell.OK);
        checks.same("errorAt", shell.errorAt(), -1);
    }

    /** Counts how many empty statements a run pays for: a while's own tick is one of the ticks. */
    private static void clampedTicks(Checks checks) {
        int[] given = {Integer.MIN_VALUE, -1, 0, 19, 20, 21, 399, 400, 401, Integer.MAX_VALUE};
        int[] due = {20, 20, 20, 20, 20, 21, 399, 400, 400, 400};
        for (int i = 0; i < given.length; i++) {
            Script script = new Script(given[i]);
            checks.passes(script, "a = 0 ;");
            checks.run(script, "while ( true ) @a += 1 ;", LooseShell.BUDGET);
            checks.same("rounds with ticks " + given[i], script.shell.globalValue(0), due[i] - 1);
        }
    }

    private static void runEmptiesTheText(Checks checks) {
        Script script = new Script();
        checks.passes(script, "a = 1 ;");
        checks.passes(script, "");
        checks.run(script, "a = @;", LooseShell.SYNTAX);
        checks.passes(script, "");
        checks.run(script, "a = 1 @/ 0 ;", LooseShell.ZERO);
        checks.passes(script, "");
        checks.gives(script, "a ;", INT, 1);
    }

    private static void runEmptiesTheAnswers(Checks checks) {
        String[] later = {"", "a = ;", "a = 1 / 0 ;"};
        for (int i = 0; i < later.length; i++) {
            Script script = new Script();
            checks.gives(script, "print ( 5 ) ; 6 ;", INT, 6);
            checks.same("outputs", script.shell.outputs(), 1);
            script.run(later[i]);
            checks.same("outputs", script.shell.outputs(), 0);
            checks.output(script, 0, -1, 0);
            checks.result(script, later[i], -1, 0);
        }
    }

    private static void nothingIsExecutedIfFaulty(Checks checks) {
        Script script = new Script();
        checks.run(script, "a = 1 ; print ( 1 ) ; 5 ; int f ( ) { } @)", LooseShell.SYNTAX);
        checks.global(script, 0, -1, 0);
        checks.same("outputs", script.shell.outputs(), 0);
        checks.same("methods", script.shell.methods(), 0);
        checks.result(script, "the faulty text", -1, 0);
    }

    private static void whatWasDoneStaysDone(Checks checks) {
        Script script = new Script();
        checks.run(script, "a = 1 ; print ( 2 ) ; 5 ; int f ( ) { } ( b = 3 ) @/ 0 ; a = 9 ;", LooseShell.ZERO);
        checks.global(script, 0, INT, 1);
        checks.global(script, 1, INT, 3);
        checks.output(script, 0, INT, 2);
        checks.same("methods", script.shell.methods(), 1);
        checks.result(script, "the text with an error", INT, 5);
    }

    private static void outputs(Checks checks) {
        Script script = new Script();
        checks.passes(script, "print ( true ) ; print ( false ) ; print ( ( byte ) 200 ) ; print ( ( char ) 65 ) ;"
            + "print ( 7 ) ; print ( 8L ) ;");
        checks.same("outputs", script.shell.outputs(), 6);
        checks.output(script, 0, BOOLEAN, 1);
        checks.output(script, 1, BOOLEAN, 0);
        checks.output(script, 2, BYTE, -56);
        checks.output(script, 3, CHAR, 65);
        checks.output(script, 4, INT, 7);
        checks.output(script, 5, LONG, 8);
        int[] none = {-1, 6, 31, 32, Integer.MIN_VALUE, Integer.MAX_VALUE};
        for (int i : none) {
            checks.output(script, i, -1, 0);
        }
        script.put("print ( 1 ) ;");
        checks.same("outputs before the next run", script.shell.outputs(), 6);
    }

    private static void fullOutputs(Checks checks) {
        Script script = new Script();
        checks.passes(script, "a = 0 ; while ( a < 32 ) print ( a += 1 ) ;");
        checks.same("outputs", script.shell.outputs(), 32);
        checks.output(script, 31, INT, 32);
        checks.output(script, 32, -1, 0);
        checks.run(script, "a = 0 ; while ( true ) @print ( a += 1 ) ;", LooseShell.FULL);
        checks.same("outputs", script.shell.outputs(), 32);
        // The value is evaluated before it is found that it has no place.
        checks.global(script, 0, INT, 33);
        checks.run(script, "a = 0 ; while ( a < 32 ) print ( a += 1 ) ; print ( 1 @/ 0 ) ;", LooseShell.ZERO);
    }

    private static void results(Checks checks) {
        checks.gives("1 ; 2 ; 3 ;", INT, 3);
        checks.gives("true ;", BOOLEAN, 1);
        checks.gives("( byte ) 3 ;", BYTE, 3);
        checks.gives("( char ) 3 ;", CHAR, 3);
        checks.gives("a = 3L ;", LONG, 3);
        checks.gives("1 ; { 2 ; }", INT, 1);
        checks.gives("1 ; if ( true ) 2 ; else 3 ;", INT, 1);
        checks.gives("1 ; a = true ; while ( a ) a = false ;", BOOLEAN, 1);
        checks.gives("int f ( ) { 7 ; return 8 ; } f ( ) ;", INT, 8);
        checks.gives("1 ; int f ( ) { 7 ; return 8 ; } int a = f ( ) ; print ( f ( ) ) ;", INT, 1);
        checks.gives("{ 1 ; }", -1, 0);
        checks.gives("int a = 4 ;", -1, 0);
        checks.gives(";", -1, 0);
        Script script = new Script();
        checks.run(script, "1 ; 2 ; @a ;", LooseShell.UNDEFINED);
        checks.result(script, "the text with an error", INT, 2);
    }

    private static void errorPlaces(Checks checks) {
        Script script = new Script();
        checks.run(script, "1 ; @a ;", LooseShell.UNDEFINED);
        script.put("a = 3 ; a");
        checks.same("errorAt while a text is given", script.shell.errorAt(), 2);
        checks.passes(script, ";");
        checks.run(script, "a @", LooseShell.SYNTAX);
    }

    private static void reset(Checks checks) {
        Script script = new Script(30);
        checks.run(script, "int a = 1 ; int f ( ) { } print ( 2 ) ; 5 ; 1 @/ 0 ;", LooseShell.ZERO);
        script.put("int b = ");
        script.shell.reset();
        fresh(checks, script);
        checks.run(script, "@f ( ) ;", LooseShell.NO_METHOD);
        checks.run(script, "@a ;", LooseShell.UNDEFINED);
        checks.passes(script, "a = 0 ;");
        checks.run(script, "while ( true ) @a += 1 ;", LooseShell.BUDGET);
        checks.global(script, 0, INT, 29);
        script.put("1 1 1");
        script.shell.reset();
        checks.gives(script, "2 ;", INT, 2);
    }
}
