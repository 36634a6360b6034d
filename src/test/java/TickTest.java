/** Promise 16 and the terms: what costs a tick, where a run ends, and the statements if, while and print. */
public final class TickTest {
    private static final int INT = LooseShell.INT, BUDGET = LooseShell.BUDGET, KIND = LooseShell.KIND;
    private static final int FULL = LooseShell.FULL, ZERO = LooseShell.ZERO, UNDEFINED = LooseShell.UNDEFINED;

    public static void main(String[] args) {
        Checks checks = new Checks("TickTest");
        itemsInOrder(checks);
        costs(checks);
        costsInMethods(checks);
        beforeAllElse(checks);
        declarationsInBlocks(checks);
        whiles(checks);
        places(checks);
        everyRunHasItsTicks(checks);
        whatWasDoneStaysDone(checks);
        conditions(checks);
        flow(checks);
        fullOutputs(checks);
        checks.end();
    }

    /** The text must cost so many ticks: with 20 in all, it leaves room for the rest and not for one more. */
    private static void cost(Checks checks, String text, int ticks) {
        Script script = new Script(20);
        checks.passes(script, "int f ( ) { } int g ( ) { ; ; } b = 0 ; c = 0 ;");
        checks.passes(script, text + " ;".repeat(20 - ticks));
        checks.passes(script, "c = 0 ; b = 0 ;");
        checks.run(script, text + " ;".repeat(20 - ticks) + " @;", BUDGET);
    }

    private static void itemsInOrder(Checks checks) {
        checks.sentence("RUNNING: the items in order.");
        Script script = new Script();
        checks.passes(script, "a = 1 ; print ( a ) ; int a = 2 ; print ( a ) ; int f ( ) { return 3 ; } print ( f ( ) ) ; { a = 4 ; } print ( a ) ;");
        for (int i = 0; i < 4; i++) {
            checks.output(script, i, INT, i + 1);
        }
    }

    private static void costs(Checks checks) {
        checks.sentence("Every statement that begins (blocks, ';' and the parts of others included, but not the block of a method;"
            + " and every item that is a method or a declaration) costs one TICK before all else;");
        cost(checks, ";", 1);
        cost(checks, "{ }", 1);
        cost(checks, "{ ; }", 2);
        cost(checks, "{ { { } } }", 3);
        cost(checks, "1 + 2 * 3 ;", 1);
        cost(checks, "a = 1 ;", 1);
        cost(checks, "print ( 1 ) ;", 1);
        cost(checks, "int a ;", 1);
        cost(checks, "int a = 1 ;", 1);
        cost(checks, "int h ( ) { ; ; }", 1);
        cost(checks, "if ( true ) ;", 2);
        cost(checks, "if ( false ) ;", 1);
        cost(checks, "if ( true ) ; else { ; }", 2);
        cost(checks, "if ( false ) ; else { ; }", 3);
        cost(checks, "if ( false ) ; else if ( true ) ;", 3);
        cost(checks, "while ( true ) break ;", 2);
        cost(checks, "while ( true ) { break ; ; }", 3);
        cost(checks, "true || f ( ) == 0 ;", 1);
    }

    private static void costsInMethods(Checks checks) {
        cost(checks, "f ( ) ;", 2);
        cost(checks, "g ( ) ;", 4);
        cost(checks, "int a = f ( ) + g ( ) ;", 5);
        cost(checks, "int h ( ) { return 1 ; } h ( ) ;", 4);
        cost(checks, "int h ( ) { return ; } h ( ) ;", 4);
        cost(checks, "int h ( ) { { } } h ( ) ;", 4);
        cost(checks, "int h ( ) { int a = 1 ; { ; } } h ( ) ;", 5);
        cost(checks, "int h ( int a ) { if ( a > 0 ) h ( a - 1 ) ; } h ( 2 ) ;", 10);
    }

    /** Nothing of the statement has been done, and no other error of it been met, when its tick is missing. */
    private static void beforeAllElse(Checks checks) {
        String[] texts = {
            "@1 / 0 ;", "@a ;", "@f ( 1 ) ;", "@if ( 1 ) ;", "@while ( a ) ;", "@print ( b = 1 ) ;", "@b = 1 ;", "@int b = 1 ;",
            "@int b ;", "@int b = true ;", "@int b ( ) { }",
        };
        for (String text : texts) {
            Script script = new Script(20);
            checks.run(script, "; ".repeat(20) + text, BUDGET);
            checks.global(script, 1, -1, 0);
            checks.same("outputs", script.shell.outputs(), 0);
            checks.same("methods", script.shell.methods(), 0);
        }
        // BUDGET also where the ninth method or the 33rd output would be too much.
        Script script = new Script(33);
        checks.run(script, "while ( true ) @print ( 1 ) ;", BUDGET);
        checks.same("outputs", script.shell.outputs(), 32);
    }

    private static void declarationsInBlocks(Checks checks) {
        checks.sentence("A declaration in a block is no statement: it costs no TICK.");
        cost(checks, "{ int a ; }", 1);
        cost(checks, "{ int a = 1 ; int d ; ; }", 2);
        cost(checks, "{ int a = f ( ) ; }", 2);
        cost(checks, "{ int a ; { int a ; int d = 2 ; } }", 2);
        cost(checks, "int h ( ) { int a ; int d = 4 ; } h ( ) ;", 3);
        cost(checks, "while ( b < 3 ) { int a = 1 ; b += a ; }", 7);
        Script script = new Script(20);
        checks.passes(script, "; ".repeat(19) + "{ int a ; int b = 1 ; long c ; }");
    }

    private static void whiles(Checks checks) {
        checks.sentence("A while costs its TICK when it begins, not each time its condition is looked at.");
        cost(checks, "while ( false ) ;", 1);
        cost(checks, "while ( b < 3 ) b += 1 ;", 4);
        cost(checks, "while ( ( b += 1 ) < 3 ) continue ;", 3);
        cost(checks, "while ( ( b += 1 ) < 3 ) { continue ; }", 5);
        cost(checks, "while ( f ( ) == 1 ) ;", 2);
        cost(checks, "while ( b < 2 ) { b += 1 ; while ( c < 0 ) ; }", 7);
        cost(checks, "while ( false ) ; while ( false ) ;", 2);
        Script script = new Script(400);
        checks.passes(script, "a = 0 ; while ( a < 398 ) a += 1 ;");
        checks.run(script, "a = 0 ; while ( a < 399 ) @a += 1 ;", BUDGET);
        checks.global(script, 0, INT, 398);
    }

    private static void places(Checks checks) {
        checks.sentence("if the ticks of the constructor are used up: BUDGET at its first token.");
        String nineteen = "; ".repeat(19);
        String twenty = "; ".repeat(20);
        String[] afterTwenty = {
            "@;", "@{ }", "@1 ;", "@- 1 ;", "@( 1 ) ;", "@( int ) 1 ;", "@true ;", "@a = 1 ;", "@print ( 1 ) ;", "@int a ;",
            "@int a = 1 ;", "@int h ( ) { }", "@if ( true ) ;", "@while ( true ) ;", "@f ( ) ;",
        };
        for (String text : afterTwenty) {
            after(checks, twenty, text);
        }
        String[] afterNineteen = {
            "{ @; }", "if ( true ) @; else ;", "if ( false ) ; else @{ }", "while ( true ) @{ }", "{ int a = 1 ; @a ; }",
            "while ( true ) @break ;", "while ( true ) @continue ;", "if ( true ) @if ( true ) ;", "if ( true ) @print ( 1 ) ;",
        };
        for (String text : afterNineteen) {
            after(checks, nineteen, text);
        }
        // In a method, the place is the one in the method's own text.
        Script script = new Script(20);
        checks.passes(script, "; ; int g ( ) { while ( true ) { } } int h ( ) { return ; }");
        checks.runInEarlier(script, "g ( ) ;", BUDGET, "; ; int g ( ) { while ( true ) @{ } }");
        checks.runInEarlier(script, "; ".repeat(18) + "h ( ) ;", BUDGET, "; ; int g ( ) { while ( true ) { } } int h ( ) { @return ; }");
    }

    private static void after(Checks checks, String before, String text) {
        Script script = new Script(20);
        checks.passes(script, "int f ( ) { }");
        checks.run(script, before + text, BUDGET);
    }

    private static void everyRunHasItsTicks(Checks checks) {
        Script script = new Script(20);
        for (int i = 0; i < 3; i++) {
            checks.passes(script, "; ".repeat(20));
            checks.run(script, "while ( true ) @;", BUDGET);
            checks.run(script, "; ".repeat(20) + "@;", BUDGET);
        }
    }

    private static void whatWasDoneStaysDone(Checks checks) {
        checks.sentence("A run that meets an error ends there; what was done stays done.");
        Script script = new Script();
        checks.run(script, "a = 1 ; print ( 2 ) ; 5 ; int f ( ) { } ( b = 3 ) @/ 0 ; a = 9 ; print ( 4 ) ; int g ( ) { }", ZERO);
        checks.same("the answers", script.answers(), "outputs 1: 3/2, errorAt 22, result 3/5, globals: a 3/1 b 3/3, methods 1");
        script = new Script();
        checks.run(script, "int f ( int a ) { print ( a ) ; b = a ; c = 6 @/ a ; b = 9 ; } f ( 2 ) ; f ( 0 ) ; f ( 1 ) ;", ZERO);
        checks.same("the answers", script.answers(), "outputs 2: 3/2 3/0, errorAt 19, result 3/0, globals: b 3/0 c 3/3, methods 1");
        script = new Script();
        checks.run(script, "a = 0 ; while ( true ) { a += 1 ; if ( a == 3 ) @b ; }", UNDEFINED);
        checks.global(script, 0, INT, 3);
        // The next run begins with nothing that was left open.
        checks.run(script, "{ int c = 1 ; { int d = 1 @/ 0 ; } }", ZERO);
        checks.run(script, "@c ;", UNDEFINED);
        checks.gives(script, "1 + ( 2 + a ) ;", INT, 6);
    }

    private static void conditions(Checks checks) {
        checks.sentence("if, while: the value of the condition must be BOOLEAN, else KIND at the word.");
        String[] numeric = {"( byte ) 1", "( char ) 0", "1", "0", "0L", "1L"};
        for (String value : numeric) {
            checks.run("@if ( " + value + " ) ;", KIND);
            checks.run("; @while ( " + value + " ) ;", KIND);
            checks.run("{ @if ( " + value + " ) ; else ; }", KIND);
        }
        checks.run("if ( true ) @if ( 1 ) ;", KIND);
        checks.run("a = true ; @while ( a ) a = 1 ;", KIND);
        checks.run("a = true ; if ( a ) @while ( a = 1 ) ;", KIND);
        checks.run("if ( @b ) ;", UNDEFINED);
        checks.run("while ( 1 @/ 0 ) ;", ZERO);
        checks.passes("if ( true ) ; if ( false ) ; while ( false ) ;");
    }

    private static void flow(Checks checks) {
        checks.gives("a = 0 ; if ( true ) a = 1 ; else a = 2 ; a ;", INT, 1);
        checks.gives("a = 0 ; if ( false ) a = 1 ; else a = 2 ; a ;", INT, 2);
        checks.gives("a = b = 0 ; while ( a < 5 ) { a += 1 ; if ( a == 2 ) continue ; if ( a == 4 ) break ; b += a ; } b ;", INT, 4);
        checks.gives("a = b = 0 ; while ( a < 3 ) { a += 1 ; while ( true ) { b += 1 ; if ( b % 3 == 0 ) break ; } } b ;", INT, 9);
        checks.gives("a = b = 0 ; while ( a < 3 ) { while ( true ) break ; a += 1 ; if ( a == 2 ) break ; } a ;", INT, 2);
        checks.gives("a = 0 ; while ( true ) if ( a < 3 ) a += 1 ; else break ; a ;", INT, 3);
    }

    private static void fullOutputs(Checks checks) {
        checks.sentence("print: the value is put at the end of the outputs; if there are 32 already: FULL at the word.");
        Script script = new Script();
        checks.passes(script, "a = 0 ; while ( a < 32 ) print ( a += 1 ) ;");
        for (int i = 0; i < 33; i++) {
            checks.output(script, i, i < 32 ? INT : -1, i < 32 ? i + 1 : 0);
        }
        checks.run(script, "a = 0 ; while ( true ) @print ( a += 1 ) ;", FULL);
        checks.same("outputs", script.shell.outputs(), 32);
        checks.output(script, 31, INT, 32);
        // The value is evaluated before it is found that it has no place.
        checks.global(script, 0, INT, 33);
        checks.run(script, "a = 0 ; while ( a < 32 ) print ( a += 1 ) ; print ( 1 @/ 0 ) ;", ZERO);
        checks.run(script, "a = 0 ; while ( a < 32 ) print ( a += 1 ) ; { ; @print ( true ) ; }", FULL);
        // Those of methods count with the others.
        script = new Script();
        checks.passes(script, "; ; int f ( int a ) { print ( a ) ; } a = 0 ; while ( a < 31 ) { a += 1 ; f ( a ) ; } print ( true ) ;");
        checks.output(script, 30, INT, 31);
        checks.output(script, 31, LooseShell.BOOLEAN, 1);
        checks.runInEarlier(script, "while ( true ) f ( 1 ) ;", FULL, "; ; int f ( int a ) { @print ( a ) ; }");
        checks.same("outputs", script.shell.outputs(), 32);
    }
}
