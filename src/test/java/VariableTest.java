/** Promises 13 and 14, and what the terms say of variables: scopes, declarations, assignment and conversion. */
public final class VariableTest {
    private static final int BOOLEAN = LooseShell.BOOLEAN, BYTE = LooseShell.BYTE, CHAR = LooseShell.CHAR;
    private static final int INT = LooseShell.INT, LONG = LooseShell.LONG, DECLARED = 8;
    private static final int KIND = LooseShell.KIND, UNDEFINED = LooseShell.UNDEFINED;

    public static void main(String[] args) {
        Checks checks = new Checks("VariableTest");
        globals(checks);
        declaredAnew(checks);
        scopes(checks);
        localsOfMethods(checks);
        conversions(checks);
        constants(checks);
        assignment(checks);
        updates(checks);
        checks.end();
    }

    private static void globals(Checks checks) {
        Script script = new Script();
        checks.passes(script, "boolean a = true ; byte b = 1 ; char c = 2 ; int d = 3 ; long e = 4 ; var f = 5L ; g = true ;");
        checks.global(script, 0, BOOLEAN + DECLARED, 1);
        checks.global(script, 1, BYTE + DECLARED, 1);
        checks.global(script, 2, CHAR + DECLARED, 2);
        checks.global(script, 3, INT + DECLARED, 3);
        checks.global(script, 4, LONG + DECLARED, 4);
        checks.global(script, 5, LONG, 5);
        checks.global(script, 6, BOOLEAN, 1);
        int[] none = {7, 15, 16, -1, Integer.MIN_VALUE, Integer.MAX_VALUE};
        for (int n : none) {
            checks.global(script, n, -1, 0);
        }
        checks.passes(script, "boolean a ; byte b ; char c ; int d ; long e ; var f ;");
        checks.global(script, 0, BOOLEAN + DECLARED, 0);
        checks.global(script, 1, BYTE + DECLARED, 0);
        checks.global(script, 2, CHAR + DECLARED, 0);
        checks.global(script, 3, INT + DECLARED, 0);
        checks.global(script, 4, LONG + DECLARED, 0);
        checks.global(script, 5, INT, 0);
    }

    private static void declaredAnew(Checks checks) {
        Script script = new Script();
        checks.passes(script, "int a = 1 ; int a = a + 1 ; boolean a = a == 2 ; var a = a ;");
        checks.global(script, 0, BOOLEAN, 1);
        checks.run(script, "int a @= true ;", KIND);
        checks.global(script, 0, BOOLEAN, 1);
        checks.run(script, "int b = @b ;", UNDEFINED);
        checks.global(script, 1, -1, 0);
        checks.passes(script, "long b = ( b = 3 ) + b ;");
        checks.global(script, 1, LONG + DECLARED, 6);
    }

    private static void scopes(Checks checks) {
        Script script = new Script();
        checks.passes(script, "a = 1 ; { print ( a ) ; int a = a + 5 ; print ( a ) ; { long a = 7 ; print ( a ) ; } print ( a ) ; }");
        checks.output(script, 0, INT, 1);
        checks.output(script, 1, INT, 5);
        checks.output(script, 2, LONG, 7);
        checks.output(script, 3, INT, 5);
        checks.global(script, 0, INT, 1);
        checks.passes(script, "{ int a ; a = 3 ; } { a = 4 ; }");
        checks.global(script, 0, INT, 4);
        // Each time that a declaration is executed its local begins as the zero.
        checks.passes(script, "b = 0 ; while ( b < 3 ) { var c = c ; print ( c ) ; c = 5L ; b += 1 ; }");
        checks.output(script, 2, INT, 0);
        checks.run("{ { int a = 1 ; } @a ; }", UNDEFINED);
        checks.run("{ int a = 1 ; } @a ;", UNDEFINED);
        checks.gives("{ int a = ( a = 3 ) + a ; b = a ; } b ;", INT, 6);
    }

    private static void localsOfMethods(Checks checks) {
        checks.gives("int f ( ) { return a ; } a = 3 ; f ( ) ;", INT, 3);
        checks.run("int f ( ) { return @a ; } { int a = 3 ; f ( ) ; }", UNDEFINED);
        checks.gives("int f ( int a ) { int a = 5 ; return a ; } f ( 3 ) ;", INT, 5);
        checks.gives("int f ( int a ) { { int a = 5 ; } return a ; } f ( 3 ) ;", INT, 3);
        checks.gives("int f ( int a ) { a = 9 ; return a ; } a = 1 ; f ( 3 ) + a ;", INT, 10);
        checks.gives("int f ( ) { a = 9 ; return 1 ; } f ( ) ; a ;", INT, 9);
        checks.gives("int f ( int a ) { if ( a == 0 ) return 0 ; int b = a ; f ( a - 1 ) ; return b ; } f ( 5 ) ;", INT, 5);
        checks.run("int f ( byte a ) { a @= 200 ; } f ( ( byte ) 1 ) ;", KIND);
    }

    /** From each kind of value to each KIND of variable, where a NAME stands in the expression. */
    private static void conversions(Checks checks) {
        String[] kinds = {"boolean", "byte", "char", "int", "long", "var"};
        String[] due = {"100001", "010111", "001111", "000111", "000011"};
        for (int from = 0; from < 5; from++) {
            for (int to = 0; to < 6; to++) {
                boolean right = due[from].charAt(to) == '1';
                Script script = new Script();
                script.run(kinds[from] + " a ;");
                String mark = right ? "" : "@";
                int code = right ? LooseShell.OK : KIND;
                checks.run(script, kinds[to] + " b " + mark + "= a ;", code);
                checks.global(script, 1, !right ? -1 : to == 5 ? from : to + DECLARED, 0);
                script.run(kinds[to] + " c ;");
                checks.run(script, "c " + mark + "= a ;", code);
                checks.run(script, "{ " + kinds[to] + " d ; d " + mark + "= a ; }", code);
                checks.run(script, "{ " + kinds[to] + " d " + mark + "= a ; }", code);
                checks.run(script, kinds[to] + " f ( ) { " + mark + "return a ; } f ( ) ;", code);
            }
        }
    }

    private static void constants(Checks checks) {
        checks.gives("byte a = 127 ; a ;", BYTE, 127);
        checks.gives("byte a = - 128 ; a ;", BYTE, -128);
        checks.run("byte a @= 128 ;", KIND);
        checks.run("byte a @= - 129 ;", KIND);
        checks.gives("char a = 65535 ; a ;", CHAR, 65535);
        checks.run("char a @= 65536 ;", KIND);
        checks.run("char a @= - 1 ;", KIND);
        checks.gives("char a = ( byte ) 5 ; a ;", CHAR, 5);
        checks.run("char a @= ( byte ) 200 ;", KIND);
        checks.gives("byte a = ( char ) 127 ; a ;", BYTE, 127);
        checks.run("byte a @= ( char ) 128 ;", KIND);
        checks.run("byte a @= 5L ;", KIND);
        checks.run("char a @= 5L ;", KIND);
        checks.run("int a @= 5L ;", KIND);
        checks.run("byte a @= true ;", KIND);
        checks.run("boolean a @= 1 ;", KIND);
        checks.gives("byte a = 100 + 27 ; a ;", BYTE, 127);
        checks.run("b = 1 ; byte a @= b ;", KIND);
        checks.run("b = 1 ; byte a @= 0 * b ;", KIND);
        checks.run("int f ( ) { return 1 ; } byte a @= f ( ) ;", KIND);
        checks.run("byte a ; a @= b = 5 ;", KIND);
        checks.gives("byte a ; byte b ; a = b = 5 ; a ;", BYTE, 5);
        checks.gives("byte a ; ( b = 7 ) + ( a = 5 ) ; a ;", BYTE, 5);
        checks.gives("byte f ( ) { return 5 ; } f ( ) ;", BYTE, 5);
        checks.run("byte f ( ) { @return 128 ; } f ( ) ;", KIND);
        checks.run("byte f ( int a ) { @return a ; } f ( 5 ) ;", KIND);
    }

    private static void assignment(Checks checks) {
        checks.gives("long a ; a = 5 ;", LONG, 5);
        checks.gives("a = 5 ; a = true ;", BOOLEAN, 1);
        checks.gives("a = b = 3L ; a ;", LONG, 3);
        checks.gives("var a = 1 ; a = true ; a ;", BOOLEAN, 1);
        checks.run("a = @a ;", UNDEFINED);
        checks.run("int a ; a @= true ;", KIND);
        Script script = new Script();
        checks.run(script, "int a = 4 ; a @= ( b = true ) ;", KIND);
        checks.global(script, 0, INT + DECLARED, 4);
        checks.global(script, 1, BOOLEAN, 1);
    }

    private static void updates(Checks checks) {
        checks.run("@a += 1 ;", UNDEFINED);
        checks.run("@a += ( a = 1 ) ;", UNDEFINED);
        checks.gives("a = 10 ; a += ( a = 1 ) ; a ;", INT, 11);
        checks.gives("byte a = 100 ; a += 100 ;", BYTE, -56);
        checks.gives("byte a = 1 ; a += 1000000L ; a ;", BYTE, 65);
        checks.gives("char a = 0 ; a -= 1 ;", CHAR, 65535);
        checks.gives("int a = 1 ; a *= 4L ; a ;", INT, 4);
        checks.gives("a = 1 ; a *= 4L ; a ;", LONG, 4);
        checks.gives("a = ( byte ) 1 ; a += ( byte ) 1 ; a ;", INT, 2);
        checks.gives("a = 17 ; a /= 5 ; a ;", INT, 3);
        checks.gives("a = 17 ; a %= 5 ; a ;", INT, 2);
        checks.gives("a = 12 ; a &= 10 ; a ;", INT, 8);
        checks.gives("a = 12 ; a |= 10 ; a ;", INT, 14);
        checks.gives("a = 12 ; a ^= 10 ; a ;", INT, 6);
        checks.gives("a = 1 ; a <<= 33 ; a ;", INT, 2);
        checks.gives("a = - 8 ; a >>= 1 ; a ;", INT, -4);
        checks.gives("a = - 8 ; a >>>= 28 ; a ;", INT, 15);
        checks.gives("boolean a = true ; a &= false ; a ;", BOOLEAN, 0);
        checks.gives("byte a = - 1 ; a >>>= 1 ; a ;", BYTE, -1);
        checks.run("a = 1 ; a @/= 0 ;", LooseShell.ZERO);
        checks.run("a = 1 ; a @%= 0L ;", LooseShell.ZERO);
        checks.run("a = true ; a @+= 1 ;", KIND);
        checks.run("a = 1 ; a @&= true ;", KIND);
        checks.run("a = 1 ; a += @b ;", UNDEFINED);
        checks.gives("{ byte a = 127 ; a += 1 ; b = a ; } b ;", BYTE, -128);
    }
}
