/** Promise 16 and the terms: what costs a tick, and where a run without ticks ends; also if and while. */
public final class TickTest {
    private static final int INT = LooseShell.INT, BUDGET = LooseShell.BUDGET, KIND = LooseShell.KIND;

    public static void main(String[] args) {
        Checks checks = new Checks("TickTest");
        costs(checks);
        places(checks);
        everyRunHasItsTicks(checks);
        flow(checks);
        conditions(checks);
        checks.end();
    }

    /** The text must cost so many ticks: with 20 in all, it leaves room for the rest and not for one more. */
    private static void cost(Checks checks, String text, int ticks) {
        Script script = new Script(20);
        checks.passes(script, "int f ( ) { } int g ( ) { ; ; } b = 0 ; c = 0 ;");
        checks.passes(script, text + " ;".repeat(20 - ticks));
        checks.run(script, "c = 0 ; b = 0 ;", LooseShell.OK);
        checks.run(script, text + " ;".repeat(20 - ticks) + " @;", BUDGET);
    }

    private static void costs(Checks checks) {
        cost(checks, ";", 1);
        cost(checks, "{ }", 1);
        cost(checks, "{ ; }", 2);
        cost(checks, "1 + 2 * 3 ;", 1);
        cost(checks, "a = 1 ;", 1);
        cost(checks, "print ( 1 ) ;", 1);
        cost(checks, "int a ;", 1);
        cost(checks, "int a = 1 ;", 1);
        cost(checks, "int h ( ) { ; ; }", 1);
        cost(checks, "{ int a ; }", 1);
        cost(checks, "{ int a = 1 ; int d ; ; }", 2);
        cost(checks, "if ( true ) ;", 2);
        cost(checks, "if ( false ) ;", 1);
        cost(checks, "if ( true ) ; else { ; }", 2);
        cost(checks, "if ( false ) ; else { ; }", 3);
        cost(checks, "while ( false ) ;", 1);
        cost(checks, "while ( b < 3 ) b += 1 ;", 4);
        cost(checks, "while ( b < 3 ) { int a = 1 ; b += a ; }", 7);
        cost(checks, "while ( true ) break ;", 2);
        cost(checks, "while ( true ) { break ; ; }", 3);
        cost(checks, "while ( ( b += 1 ) < 3 ) continue ;", 3);
        cost(checks, "f ( ) ;", 2);
        cost(checks, "g ( ) ;", 4);
        cost(checks, "int a = f ( ) + g ( ) ;", 5);
        cost(checks, "while ( f ( ) == 1 ) ;", 2);
        cost(checks, "true || f ( ) == 0 ;", 1);
        cost(checks, "{ int a = f ( ) ; }", 2);
        cost(checks, "int h ( ) { return 1 ; } h ( ) ;", 4);
        cost(checks, "int h ( ) { int a = 1 ; { ; } } h ( ) ;", 5);
    }

    private static void places(Checks checks) {
        String nineteen = "; ".repeat(19);
        String twenty = "; ".repeat(20);
        String[] afterTwenty = {
            "@;", "@{ }", "@1 ;", "@- 1 ;", "@a = 1 ;", "@print ( 1 ) ;", "@int a ;", "@int a = 1 ;", "@int h ( ) { }",
            "@if ( true ) ;", "@while ( true ) ;", "@f ( ) ;", "@f ( 1 / 0 ) ;",
        };
        for (String text : afterTwenty) {
            after(checks, twenty, text);
        }
        String[] afterNineteen = {
            "{ @; }", "if ( true ) @; else ;", "if ( false ) ; else @{ }", "while ( true ) @{ }", "{ int a = 1 ; @a ; }",
            "@f ( ) ;", "1 + @f ( ) ;", "print ( @f ( ) ) ;", "int a = @f ( ) ;", "{ int a = @f ( ) ; }",
            "if ( @f ( ) == 0 ) ;", "while ( @f ( ) == 0 ) ;",
        };
        for (String text : afterNineteen) {
            after(checks, nineteen, text);
        }
        // In a method, the place is the one in the method's own text.
        Script script = new Script(20);
        checks.passes(script, "; ; int g ( ) { while ( true ) { } }");
        checks.runInEarlier(script, "g ( ) ;", BUDGET, "; ; int g ( ) { while ( true ) @{ } }");
    }

    private static void after(Checks checks, String before, String text) {
        Script script = new Script(20);
        checks.passes(script, "int f ( ) { }");
        checks.run(script, before + text, BUDGET);
    }

    private static void everyRunHasItsTicks(Checks checks) {
        Script script = new Script(20);
        for (int i = 0; i < 3; i++) {
            checks.passes(script, "; ".repeat(20));
            checks.run(script, "while ( true ) @;", BUDGET);
        }
        script = new Script(400);
        checks.passes(script, "a = 0 ; while ( a < 398 ) a += 1 ;");
        checks.run(script, "a = 0 ; while ( a < 399 ) @a += 1 ;", BUDGET);
        checks.global(script, 0, INT, 398);
    }

    private static void flow(Checks checks) {
        checks.gives("a = 0 ; if ( true ) a = 1 ; else a = 2 ; a ;", INT, 1);
        checks.gives("a = 0 ; if ( false ) a = 1 ; else a = 2 ; a ;", INT, 2);
        checks.gives("a = 0 ; if ( true ) if ( false ) a = 1 ; else a = 2 ; a ;", INT, 2);
        checks.gives("a = 0 ; if ( false ) if ( true ) a = 1 ; else a = 2 ; a ;", INT, 0);
        checks.gives("a = 0 ; if ( false ) { if ( true ) a = 1 ; } else a = 2 ; a ;", INT, 2);
        checks.gives("a = b = 0 ; while ( a < 5 ) { a += 1 ; if ( a == 2 ) continue ; if ( a == 4 ) break ; b += a ; } b ;", INT, 4);
        checks.gives("a = b = 0 ; while ( a < 3 ) { a += 1 ; while ( true ) { b += 1 ; if ( b % 3 == 0 ) break ; } } b ;", INT, 9);
        checks.gives("a = b = 0 ; while ( a < 3 ) { while ( true ) break ; a += 1 ; if ( a == 2 ) break ; } a ;", INT, 2);
        checks.gives("a = 0 ; while ( true ) if ( a < 3 ) a += 1 ; else break ; a ;", INT, 3);
    }

    private static void conditions(Checks checks) {
        checks.run("@if ( 1 ) ;", KIND);
        checks.run("; @while ( 0L ) ;", KIND);
        checks.run("{ @if ( ( byte ) 1 ) ; else ; }", KIND);
        checks.run("a = true ; @while ( a ) a = 1 ;", KIND);
        checks.run("if ( @b ) ;", LooseShell.UNDEFINED);
    }
}
