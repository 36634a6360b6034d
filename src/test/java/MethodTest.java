/** Promise 15 and what the terms say of methods: which one is called, what it answers, and what is too much. */
public final class MethodTest {
    private static final int BOOLEAN = LooseShell.BOOLEAN, BYTE = LooseShell.BYTE, CHAR = LooseShell.CHAR;
    private static final int INT = LooseShell.INT, LONG = LooseShell.LONG;
    private static final int NO_METHOD = LooseShell.NO_METHOD, AMBIGUOUS = LooseShell.AMBIGUOUS;

    public static void main(String[] args) {
        Checks checks = new Checks("MethodTest");
        answers(checks);
        arguments(checks);
        fitting(checks);
        special(checks);
        replaced(checks);
        eightMethods(checks);
        manyTokens(checks);
        deepCalls(checks);
        laterRuns(checks);
        checks.end();
    }

    private static void answers(Checks checks) {
        checks.gives("int f ( ) { return 5 ; } f ( ) ;", INT, 5);
        checks.gives("long f ( ) { return 5 ; } f ( ) ;", LONG, 5);
        checks.gives("var f ( ) { return true ; } f ( ) ;", BOOLEAN, 1);
        String[] kinds = {"boolean", "byte", "char", "int", "long", "var"};
        for (int kind = 0; kind < 6; kind++) {
            int due = kind == 5 ? INT : kind;
            checks.gives(kinds[kind] + " f ( ) { } f ( ) ;", due, 0);
            checks.gives(kinds[kind] + " f ( ) { return ; } f ( ) ;", due, 0);
        }
        checks.gives("a = 5 ; int f ( ) { } f ( ) ; a ;", INT, 5);
        checks.gives("int f ( ) { while ( true ) { if ( true ) return 7 ; } } f ( ) ;", INT, 7);
        checks.gives("int f ( ) { { return 7 ; } return 8 ; } 1 + f ( ) * 2 ;", INT, 15);
        checks.run("int f ( ) { @return true ; } f ( ) ;", LooseShell.KIND);
        checks.run("boolean f ( ) { @return 1 ; } f ( ) ;", LooseShell.KIND);
        checks.run("int f ( ) { @return 1L ; } f ( ) ;", LooseShell.KIND);
        checks.gives("int f ( int f ) { return f + 1 ; } f = 3 ; f ( f ) ;", INT, 4);
    }

    private static void arguments(Checks checks) {
        Script script = new Script();
        checks.gives(script, "int f ( int a , long b , var c ) { print ( a ) ; print ( b ) ; print ( c ) ; return 1 ; }"
            + " f ( ( byte ) 1 , ( char ) 2 , ( byte ) 3 ) ;", INT, 1);
        checks.output(script, 0, INT, 1);
        checks.output(script, 1, LONG, 2);
        checks.output(script, 2, BYTE, 3);
        checks.run("@f ( ) ;", NO_METHOD);
        checks.run("f ( @a ) ;", LooseShell.UNDEFINED);
        checks.run("f ( 1 , 2 @/ 0 , b ) ;", LooseShell.ZERO);
        script = new Script();
        checks.run(script, "@f ( a = 1 , b = 2 ) ;", NO_METHOD);
        checks.global(script, 1, INT, 2);
        checks.gives("int f ( int a , int b ) { return a - b ; } a = 1 ; f ( a = 5 , a ) ;", INT, 0);
        checks.gives("int f ( int a ) { return a + 1 ; } f ( f ( f ( 1 ) ) ) ;", INT, 4);
        checks.gives("int f ( var a ) { a = true ; return 1 ; } f ( 5 ) ;", INT, 1);
        checks.run("int f ( int a ) { } @f ( ) ;", NO_METHOD);
        checks.run("int f ( int a ) { } @f ( 1 , 2 ) ;", NO_METHOD);
        checks.run("int f ( int a ) { } @g ( 1 ) ;", NO_METHOD);
        checks.run("@f ( ) ; int f ( ) { }", NO_METHOD);
    }

    /** Every kind of argument against every KIND of parameter; constants are not narrowed for a call. */
    private static void fitting(Checks checks) {
        String[] kinds = {"boolean", "byte", "char", "int", "long", "var"};
        String[] values = {"true", "( byte ) 1", "( char ) 1", "1", "1L"};
        String[] due = {"100001", "010111", "001111", "000111", "000011"};
        for (int from = 0; from < 5; from++) {
            for (int to = 0; to < 6; to++) {
                String head = "var f ( " + kinds[to] + " a ) { return a ; } ";
                if (due[from].charAt(to) == '1') {
                    checks.gives(head + "f ( " + values[from] + " ) ;", to == 5 ? from : to, 1);
                } else {
                    checks.run(head + "@f ( " + values[from] + " ) ;", NO_METHOD);
                }
            }
        }
    }

    private static void special(Checks checks) {
        Script script = new Script();
        checks.passes(script, "int f ( var a ) { return 5 ; } int f ( long a ) { return 4 ; } int f ( int a ) { return 3 ; }");
        checks.gives(script, "f ( 1 ) ;", INT, 3);
        checks.gives(script, "f ( ( byte ) 1 ) ;", INT, 3);
        checks.gives(script, "f ( 1L ) ;", INT, 4);
        checks.gives(script, "f ( true ) ;", INT, 5);
        checks.passes(script, "int f ( byte a ) { return 1 ; } int f ( char a ) { return 2 ; }");
        checks.gives(script, "f ( ( byte ) 1 ) * 10 + f ( ( char ) 1 ) ;", INT, 12);
        checks.same("methods", script.shell.methods(), 5);

        script = new Script();
        checks.passes(script, "int f ( var a , int b ) { return 1 ; } int f ( int a , var b ) { return 2 ; }");
        checks.run(script, "@f ( 1 , 2 ) ;", AMBIGUOUS);
        checks.gives(script, "f ( true , 2 ) ;", INT, 1);
        checks.gives(script, "f ( 2 , true ) ;", INT, 2);
        checks.run(script, "@f ( true , true ) ;", NO_METHOD);
        checks.passes(script, "int f ( int a , int b ) { return 3 ; }");
        checks.gives(script, "f ( 1 , 2 ) ;", INT, 3);
        checks.gives(script, "f ( 1 , 1L ) ;", INT, 2);
        checks.run(script, "1 + @f ( 1L , true ) ;", NO_METHOD);

        // One is more special than a second, but not than a third: there is none.
        script = new Script();
        checks.passes(script, "int f ( int a , long b ) { return 1 ; } int f ( long a , long b ) { return 2 ; }"
            + "int f ( long a , int b ) { return 3 ; }");
        checks.run(script, "@f ( 1 , 1 ) ;", AMBIGUOUS);
        checks.gives(script, "f ( 1 , 1L ) * 100 + f ( 1L , 1L ) * 10 + f ( 1L , 1 ) ;", INT, 123);
    }

    private static void replaced(Checks checks) {
        Script script = new Script();
        checks.gives(script, "int f ( int a ) { return 1 ; } int f ( int b ) { return 2 ; } f ( 0 ) ;", INT, 2);
        checks.same("methods", script.shell.methods(), 1);
        checks.gives(script, "long f ( int c ) { return 3 ; } f ( 0 ) ;", LONG, 3);
        checks.same("methods", script.shell.methods(), 1);
        checks.passes(script, "int f ( ) { } int f ( long a ) { } int g ( int a ) { } int f ( int a , int b ) { }");
        checks.same("methods", script.shell.methods(), 5);
    }

    private static void eightMethods(Checks checks) {
        Script script = new Script();
        for (int i = 0; i < 8; i++) {
            checks.passes(script, "int " + (char) ('a' + i) + " ( ) { return " + i + " ; }");
            checks.same("methods", script.shell.methods(), i + 1);
        }
        checks.run(script, "; @int i ( ) { }", LooseShell.FULL);
        checks.run(script, "@int a ( int b ) { }", LooseShell.FULL);
        checks.same("methods", script.shell.methods(), 8);
        checks.gives(script, "int h ( ) { return 70 ; } h ( ) ;", INT, 70);
        checks.gives(script, "a ( ) + h ( ) ;", INT, 70);
        script.shell.reset();
        checks.passes(script, "int i ( ) { }");
    }

    /** A method of f with so many tokens. */
    private static String method(int tokens) {
        return "int f ( ) { " + "; ".repeat(tokens - 6) + "}";
    }

    private static void manyTokens(Checks checks) {
        Script script = new Script();
        checks.passes(script, method(130));
        checks.run(script, "; @" + method(111), LooseShell.FULL);
        checks.passes(script, method(104));
        checks.run(script, "@" + method(7), LooseShell.FULL);
        checks.passes(script, method(6));
        checks.run(script, "@" + method(6), LooseShell.FULL);
        checks.same("methods", script.shell.methods(), 1);
        checks.gives(script, "f ( ) ;", INT, 0);
        script = new Script();
        checks.passes(script, method(140));
        checks.passes(script, method(100));
        checks.run(script, "@int g ( ) { }", LooseShell.FULL);
        script.shell.reset();
        checks.passes(script, method(140));
        // One that the text has, but that was not reached, counts nothing.
        script = new Script();
        checks.run(script, "1 @/ 0 ; " + method(130), LooseShell.ZERO);
        checks.passes(script, method(140));
        checks.passes(script, method(100));
    }

    private static void deepCalls(Checks checks) {
        String down = "int f ( int a ) { if ( a == 1 ) return 1 ; return 1 + %f ( a - 1 ) ; } ";
        checks.gives(down.replace("%", "") + "f ( 8 ) ;", INT, 8);
        checks.run(down.replace("%", "@") + "f ( 9 ) ;", LooseShell.DEEP);
        checks.gives(down.replace("%", "") + "f ( 8 ) + f ( 8 ) ;", INT, 16);
        // The kinds are looked at before the depth.
        checks.run("int f ( int a ) { if ( a == 1 ) @f ( true ) ; f ( a - 1 ) ; } f ( 8 ) ;", NO_METHOD);
        checks.run("int f ( int a ) { f ( a + 1 @/ 0 ) ; } f ( 8 ) ;", LooseShell.ZERO);
        // With the operands of all callers waiting.
        checks.gives("int f ( int a ) { if ( a == 0 ) return 0 ; return 1 + ( 1 + ( 1 + ( 1 + f ( a - 1 ) ) ) ) ; } f ( 7 ) ;", INT, 28);
    }

    private static void laterRuns(Checks checks) {
        Script script = new Script();
        checks.passes(script, "; ; int f ( int a ) { print ( 10 / a ) ; return b ; }");
        checks.runInEarlier(script, "; f ( 0 ) ; ; ; ; ; ; ;", LooseShell.ZERO, "; ; int f ( int a ) { print ( 10 @/ a )");
        checks.runInEarlier(script, "f ( 1 ) ; ; ; ; ; ; ; ;", LooseShell.UNDEFINED,
            "; ; int f ( int a ) { print ( 10 / a ) ; return @b ; }");
        checks.passes(script, "int g ( ) { while ( true ) { if ( b > 2 ) break ; b += 1 ; } return f ( b ) ; }");
        checks.gives(script, "b = 0 ; g ( ) ; b ;", INT, 3);
        checks.output(script, 0, INT, 3);
        checks.run(script, "; ; a = @", LooseShell.SYNTAX);
        checks.gives(script, "b = 5 ; g ( ) ;", INT, 5);
        checks.runInEarlier(script, "boolean b = true ; g ( ) ;", LooseShell.KIND,
            "int g ( ) { while ( true ) { if ( b @> 2 ) break ;");
    }
}
