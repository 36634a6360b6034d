/** Promises 13 and 14, and what the terms say of variables: scopes, declarations, assignment and conversion. */
public final class VariableTest {
    private static final int BOOLEAN = LooseShell.BOOLEAN, BYTE = LooseShell.BYTE, CHAR = LooseShell.CHAR;
    private static final int INT = LooseShell.INT, LONG = LooseShell.LONG, DECLARED = 8;
    private static final int KIND = LooseShell.KIND, UNDEFINED = LooseShell.UNDEFINED, ZERO = LooseShell.ZERO;
    private static final String[] KINDS = {"boolean", "byte", "char", "int", "long", "var"};
    /** For each kind of a value, whether it may be put in a variable of each KIND as it is or by value. */
    private static final String[] FITS = {"100001", "010111", "001111", "000111", "000011"};

    public static void main(String[] args) {
        Checks checks = new Checks("VariableTest");
        globalKinds(checks);
        globalValues(checks);
        zeros(checks);
        ranges(checks);
        globalsAndLocals(checks);
        scopes(checks);
        foundAtRunTime(checks);
        localsBeginAsZero(checks);
        declarations(checks);
        declaredAnew(checks);
        conversions(checks);
        constants(checks);
        noConstants(checks);
        undefined(checks);
        assignment(checks);
        assignedWithoutVariable(checks);
        updates(checks);
        updatesThatCast(checks);
        checks.end();
    }

    private static void globalKinds(Checks checks) {
        checks.sentence("The kind of the value of global n, plus 8 if it was declared with a KIND other than var; -1 if there is none.");
        Script script = new Script();
        checks.passes(script, "boolean a = true ; byte b = 1 ; char c = 2 ; int d = 3 ; long e = 4 ; var f = 5L ; g = true ;"
            + " var h ; p = ( byte ) 1 ;");
        int[] due = {8, 9, 10, 11, 12, LONG, BOOLEAN, INT, -1, -1, -1, -1, -1, -1, -1, BYTE};
        for (int n = 0; n < 16; n++) {
            checks.same("globalKind(" + n + ")", script.shell.globalKind(n), due[n]);
        }
        int[] none = {-1, 16, 17, 24, 88, Integer.MIN_VALUE, Integer.MAX_VALUE};
        for (int n : none) {
            checks.same("globalKind(" + n + ")", script.shell.globalKind(n), -1);
        }
        // The kind of a var is that of its latest value.
        checks.passes(script, "f = 1 ; g = ( char ) 1 ; var a = true ;");
        checks.same("globalKind(5)", script.shell.globalKind(5), INT);
        checks.same("globalKind(6)", script.shell.globalKind(6), CHAR);
        checks.same("globalKind(0)", script.shell.globalKind(0), BOOLEAN);
    }

    private static void globalValues(Checks checks) {
        checks.sentence("The value of global n as a long; 0 if there is none.");
        Script script = new Script();
        checks.passes(script, "a = true ; b = - 1 ; c = ( char ) - 1 ; long d = 1L << 63 ; p = 7 ;");
        long[] due = {1, -1, 65535, Long.MIN_VALUE, 0, 0, 0, 0, 0, 0, 0, 0, 0, 0, 0, 7};
        for (int n = 0; n < 16; n++) {
            checks.same("globalValue(" + n + ")", script.shell.globalValue(n), due[n]);
        }
        int[] none = {-1, 16, 17, 24, 88, Integer.MIN_VALUE, Integer.MAX_VALUE};
        // A local is none, whatever it has been.
        checks.passes(script, "{ int e = 5 ; } int f ( int g ) { int h = 6 ; } f ( 8 ) ;");
        for (int n : none) {
            checks.same("globalValue(" + n + ")", script.shell.globalValue(n), 0);
        }
        for (int n = 4; n < 8; n++) {
            checks.same("globalValue(" + n + ")", script.shell.globalValue(n), 0);
        }
    }

    private static void zeros(Checks checks) {
        checks.sentence("The zero of a kind is false or 0; the zero of 'var' is the INT 0.");
        for (int kind = 0; kind < 6; kind++) {
            Script script = new Script();
            int due = kind == 5 ? INT : kind;
            checks.passes(script, KINDS[kind] + " a ;");
            checks.global(script, 0, kind == 5 ? INT : kind + DECLARED, 0);
            checks.passes(script, "{ " + KINDS[kind] + " b ; print ( b ) ; }");
            checks.output(script, 0, due, 0);
            checks.gives(script, KINDS[kind] + " f ( ) { } f ( ) ;", due, 0);
        }
    }

    private static void ranges(Checks checks) {
        checks.sentence("BOOLEAN 0 (false 0, true 1), BYTE 1 (-128..127), CHAR 2 (0..65535), INT 3, LONG 4.");
        checks.gives("false ;", 0, 0);
        checks.gives("true ;", 0, 1);
        checks.gives("byte a = 127 ; a += 1 ;", 1, -128);
        checks.gives("byte a = - 128 ; a -= 1 ;", 1, 127);
        checks.gives("char a = 65535 ; a += 1 ;", 2, 0);
        checks.gives("char a ; a -= 1 ;", 2, 65535);
        checks.gives("int a = 2147483647 ; a += 1 ;", 3, Integer.MIN_VALUE);
        checks.gives("int a = - 2147483647 - 1 ; a -= 1 ;", 3, Integer.MAX_VALUE);
        checks.gives("long a = ~ ( 1L << 63 ) ; a += 1 ;", 4, Long.MIN_VALUE);
        checks.gives("long a = 1L << 63 ; a -= 1 ;", 4, Long.MAX_VALUE);
    }

    private static void globalsAndLocals(Checks checks) {
        checks.sentence("A declaration among the items, outside of all scopes, makes a GLOBAL variable; every other one a LOCAL.");
        Script script = new Script();
        checks.passes(script, "int a = 1 ; { int b = 2 ; { int c = 3 ; } } if ( true ) { int d = 4 ; }"
            + " int f ( int e ) { int g = 5 ; } f ( 6 ) ; int h = 7 ;");
        int[] due = {11, -1, -1, -1, -1, -1, -1, 11};
        for (int n = 0; n < due.length; n++) {
            checks.same("globalKind(" + n + ")", script.shell.globalKind(n), due[n]);
        }
        // A local of the NAME of a global leaves that one as it is.
        checks.passes(script, "{ boolean a = true ; a = false ; }");
        checks.global(script, 0, INT + DECLARED, 1);
    }

    private static void scopes(Checks checks) {
        checks.sentence("A NAME that is used as a variable means the local (or parameter) of the innermost open scope,"
            + " inside its own method (or its own item), in which a declaration of that NAME stands before the use"
            + " (its own initialiser counts as after it)");
        Script script = new Script();
        checks.passes(script, "a = 1 ; { print ( a ) ; int a = a + 5 ; print ( a ) ; { long a = 7 ; print ( a ) ; } print ( a ) ; }");
        checks.output(script, 0, INT, 1);
        checks.output(script, 1, INT, 5);
        checks.output(script, 2, LONG, 7);
        checks.output(script, 3, INT, 5);
        checks.global(script, 0, INT, 1);
        checks.passes(script, "{ int a ; a = 3 ; } { a = 4 ; }");
        checks.global(script, 0, INT, 4);
        // Before means in the text: also where the loop has been at the declaration before.
        checks.passes(script, "b = 0 ; while ( b < 3 ) { a += 10 ; int a = 100 ; a += 1 ; b += 1 ; } a ;");
        checks.result(script, "the global that is used before the local", INT, 34);
        checks.gives("{ int a = 1 ; { a = 2 ; int a = 5 ; a = 6 ; } b = a ; } b ;", INT, 2);
        checks.run("{ { int a = 1 ; } @a ; }", UNDEFINED);
        checks.run("{ int a = 1 ; } @a ;", UNDEFINED);
        checks.run("{ int a = 1 ; } { @a ; }", UNDEFINED);
        checks.gives("{ int a = ( a = 3 ) + a ; b = a ; } b ;", INT, 6);
        checks.gives("{ int a = 4 ; { int a = a + 1 ; b = a ; } } b ;", INT, 1);
        checks.gives("int f ( int a ) { int a = 5 ; return a ; } f ( 3 ) ;", INT, 5);
        checks.gives("int f ( int a ) { int a = a + 1 ; return a ; } f ( 3 ) ;", INT, 1);
        checks.gives("int f ( int a ) { { int a = 5 ; } return a ; } f ( 3 ) ;", INT, 3);
        checks.gives("int f ( int a ) { a = 9 ; return a ; } a = 1 ; f ( 3 ) + a ;", INT, 10);
        checks.gives("int f ( int a ) { if ( a == 0 ) return 0 ; int b = a ; f ( a - 1 ) ; return b ; } f ( 5 ) ;", INT, 5);
        // Every call has its own.
        checks.gives("int f ( int a ) { if ( a > 0 ) f ( a - 1 ) ; return a ; } f ( 5 ) ;", INT, 5);
        checks.gives("int f ( int a , int b ) { if ( a > 0 ) f ( a - 1 , 7 ) ; return a * 10 + b ; } f ( 5 , 6 ) ;", INT, 56);
        checks.gives("int f ( ) { int a = b ; b -= 1 ; if ( b > 0 ) f ( ) ; return a ; } b = 5 ; { int a = 100 ; c = f ( ) + a ; } c ;", INT, 105);
        // What is open where a method is called is not its own.
        checks.run("int f ( ) { return @a ; } { int a = 3 ; f ( ) ; }", UNDEFINED);
        checks.run("int f ( ) { return @a ; } int g ( int a ) { return f ( ) ; } g ( 3 ) ;", UNDEFINED);
        checks.run("int f ( byte a ) { a @= 200 ; } f ( ( byte ) 1 ) ;", KIND);
    }

    private static void foundAtRunTime(Checks checks) {
        checks.sentence("else the global of that NAME as it is found at run time.");
        checks.gives("int f ( ) { return a ; } a = 3 ; f ( ) ;", INT, 3);
        checks.gives("int f ( ) { a = 9 ; return 1 ; } f ( ) ; a ;", INT, 9);
        Script script = new Script();
        checks.passes(script, "var f ( ) { return a ; } int g ( ) { a = 5L ; }");
        checks.runInEarlier(script, "f ( ) ;", UNDEFINED, "var f ( ) { return @a ; }");
        checks.gives(script, "boolean a = true ; f ( ) ;", BOOLEAN, 1);
        checks.gives(script, "char a = 66 ; f ( ) ;", CHAR, 66);
        checks.runInEarlier(script, "int a = 4 ; g ( ) ;", KIND, "var f ( ) { return a ; } int g ( ) { a @= 5L ; }");
        checks.gives(script, "var a ; g ( ) ; f ( ) ;", LONG, 5);
        checks.gives("{ b = 1 ; a = b ; { a += b ; } } a ;", INT, 2);
    }

    private static void localsBeginAsZero(Checks checks) {
        checks.sentence("When a local's declaration is executed it first gets the zero of its KIND.");
        for (int kind = 0; kind < 6; kind++) {
            Script script = new Script();
            String last = kind == BOOLEAN ? "true" : "( " + KINDS[kind == 5 ? LONG : kind] + " ) 5";
            String[] declarations = {KINDS[kind] + " c = c ;", KINDS[kind] + " c ;"};
            for (String declaration : declarations) {
                checks.passes(script, "b = 0 ; while ( b < 3 ) { " + declaration + " print ( c ) ; c = " + last + " ; b += 1 ; }");
                for (int i = 0; i < 3; i++) {
                    checks.output(script, i, kind == 5 ? INT : kind, 0);
                }
            }
        }
        checks.gives("{ int a = 7 ; long b = 8 ; } { int c = c + 1 ; byte d ; e = c + d ; } e ;", INT, 1);
        checks.gives("int f ( ) { int a ; a += 1 ; return a ; } f ( ) + f ( ) ;", INT, 2);
    }

    private static void declarations(Checks checks) {
        checks.sentence("declaration: the expr is evaluated (a local itself may be read in it: its zero),"
            + " CONVERTED to its KIND (error KIND at '='), and put in.");
        checks.gives("long a = 5 ; a ;", LONG, 5);
        checks.gives("{ var a = a ; b = a ; } b ;", INT, 0);
        checks.gives("{ boolean a = ! a ; b = a ; } b ;", BOOLEAN, 1);
        checks.gives("{ byte a = ( byte ) ( a + 1 ) ; b = a ; } b ;", BYTE, 1);
        checks.run("int a @= true ;", KIND);
        checks.run("{ int a @= true ; }", KIND);
        checks.run("; { boolean b ; byte a @= 128 ; }", KIND);
        checks.run("int a = 1 @/ 0 ;", ZERO);
        checks.run("{ int a = @b ; }", UNDEFINED);
        checks.sentence("Without expr: the zero.");
        checks.gives("int a = 4 ; int a ; a ;", INT, 0);
        checks.gives("b = 4 ; boolean b ; b ;", BOOLEAN, 0);
        checks.gives("{ long a ; b = a ; } b ;", LONG, 0);
    }

    private static void declaredAnew(Checks checks) {
        checks.sentence("A global is then declared anew with that KIND, whether there was one of its NAME or not.");
        Script script = new Script();
        checks.passes(script, "int a = 1 ; int a = a + 1 ; boolean a = a == 2 ; var a = a ;");
        checks.global(script, 0, BOOLEAN, 1);
        checks.passes(script, "a = 6L ;");
        checks.global(script, 0, LONG, 6);
        checks.passes(script, "byte a = 7 ;");
        checks.global(script, 0, BYTE + DECLARED, 7);
        checks.passes(script, "var a ;");
        checks.global(script, 0, INT, 0);
        // Only then: with an error it stays what it was, or none.
        checks.run(script, "boolean a @= 1 ;", KIND);
        checks.global(script, 0, INT, 0);
        checks.run(script, "int b = @b ;", UNDEFINED);
        checks.run(script, "int b @= true ;", KIND);
        checks.global(script, 1, -1, 0);
        checks.passes(script, "long b = ( b = 3 ) + b ;");
        checks.global(script, 1, LONG + DECLARED, 6);
        checks.run(script, "byte c @= ( c = 200 ) ;", KIND);
        checks.global(script, 2, INT, 200);
    }

    /** From each kind of value to each KIND, wherever a value is converted; a NAME stands in the expression. */
    private static void conversions(Checks checks) {
        checks.sentence("CONVERTED to KIND var: as it is. To another: the same kind as it is; BYTE to INT, LONG; CHAR to INT, LONG;"
            + " INT to LONG by value;");
        for (int from = 0; from < 5; from++) {
            for (int to = 0; to < 6; to++) {
                if (FITS[from].charAt(to) == '1') {
                    convert(checks, from, to, "");
                }
            }
        }
        checks.gives("a = ( byte ) - 1 ; long b = a ; b ;", LONG, -1);
        checks.gives("a = ( char ) - 1 ; int b = a ; b ;", INT, 65535);
        checks.gives("a = - 2147483647 - 1 ; long b = a ; b ;", LONG, Integer.MIN_VALUE);
        checks.sentence("Else: the error.");
        for (int from = 0; from < 5; from++) {
            for (int to = 0; to < 6; to++) {
                if (FITS[from].charAt(to) == '0') {
                    convert(checks, from, to, "@");
                }
            }
        }
    }

    private static void convert(Checks checks, int from, int to, String mark) {
        boolean right = mark.isEmpty();
        int code = right ? LooseShell.OK : KIND;
        int due = to == 5 ? from : to;
        Script script = new Script();
        checks.passes(script, (from == BOOLEAN ? "a = true" : "a = ( " + KINDS[from] + " ) 1") + " ; " + KINDS[to] + " c ;");
        checks.run(script, KINDS[to] + " b " + mark + "= a ;", code);
        checks.global(script, 1, !right ? -1 : to == 5 ? due : due + DECLARED, right ? 1 : 0);
        checks.run(script, "c " + mark + "= a ;", code);
        checks.global(script, 2, !right ? to + DECLARED : to == 5 ? due : due + DECLARED, right ? 1 : 0);
        checks.run(script, "{ " + KINDS[to] + " d ; d " + mark + "= a ; }", code);
        checks.run(script, "{ " + KINDS[to] + " d " + mark + "= a ; }", code);
        checks.run(script, KINDS[to] + " f ( ) { " + mark + "return a ; } f ( ) ;", code);
        checks.result(script, "f ( )", right ? due : -1, right ? 1 : 0);
    }

    private static void constants(Checks checks) {
        checks.sentence("and, if no NAME stands in the expr, BYTE, CHAR or INT to byte or char if that kind has the value.");
        constant(checks, "byte", "127", 127);
        constant(checks, "byte", "- 128", -128);
        refused(checks, "byte", "128");
        refused(checks, "byte", "- 129");
        refused(checks, "byte", "256");
        constant(checks, "byte", "( char ) 127", 127);
        refused(checks, "byte", "( char ) 128");
        refused(checks, "byte", "( char ) 65535");
        constant(checks, "char", "0", 0);
        constant(checks, "char", "65535", 65535);
        refused(checks, "char", "65536");
        refused(checks, "char", "- 1");
        constant(checks, "char", "( byte ) 127", 127);
        constant(checks, "char", "( byte ) 0", 0);
        refused(checks, "char", "( byte ) - 1");
        refused(checks, "char", "( byte ) 200");
        constant(checks, "byte", "( 100 + 27 )", 127);
        constant(checks, "byte", "1 << 33", 2);
        // No other kind of value, and to no other KIND.
        refused(checks, "byte", "5L");
        refused(checks, "char", "5L");
        refused(checks, "int", "5L");
        refused(checks, "byte", "true");
        refused(checks, "char", "false");
        refused(checks, "int", "false");
        refused(checks, "long", "false");
        refused(checks, "boolean", "0");
        refused(checks, "boolean", "1L");
    }

    private static void constant(Checks checks, String kind, String expr, long value) {
        int due = kind.equals("byte") ? BYTE : CHAR;
        checks.gives(kind + " a = " + expr + " ; a ;", due, value);
        checks.gives(kind + " a ; a = " + expr + " ;", due, value);
        checks.gives("{ " + kind + " a = " + expr + " ; b = a ; } b ;", due, value);
        checks.gives(kind + " f ( ) { return " + expr + " ; } f ( ) ;", due, value);
    }

    private static void refused(Checks checks, String kind, String expr) {
        checks.run(kind + " a @= " + expr + " ;", KIND);
        checks.run(kind + " a ; a @= " + expr + " ;", KIND);
        checks.run("{ " + kind + " a @= " + expr + " ; }", KIND);
        checks.run(kind + " f ( ) { @return " + expr + " ; } f ( ) ;", KIND);
    }

    private static void noConstants(Checks checks) {
        checks.run("b = 1 ; byte a @= b ;", KIND);
        checks.run("b = 1 ; byte a @= 0 * b ;", KIND);
        checks.run("b = 1 ; char a @= b + 1 ;", KIND);
        checks.run("int f ( ) { return 1 ; } byte a @= f ( ) ;", KIND);
        checks.run("byte a ; a @= b = 5 ;", KIND);
        checks.run("byte a ; a @= ( b = 5 ) ;", KIND);
        checks.run("byte f ( int a ) { @return a ; } f ( 5 ) ;", KIND);
        // The expr is what stands to the right of this '='; a NAME elsewhere does not count.
        checks.gives("byte a ; byte b ; a = b = 5 ; a ;", BYTE, 5);
        checks.gives("byte a ; ( b = 7 ) + ( a = 5 ) ; a ;", BYTE, 5);
        checks.gives("byte a ; ( a = 5 ) + ( b = 7 ) ; a ;", BYTE, 5);
        checks.gives("b = 1 ; b + ( c = 2 ) ; { byte a = 5 ; d = a ; } d ;", BYTE, 5);
        // A NAME does not hinder where the kind fits as it is.
        checks.gives("byte b = 4 ; byte a = b ; long c = b ; a ;", BYTE, 4);
    }

    private static void undefined(Checks checks) {
        checks.sentence("a NAME: its value; without variable: UNDEFINED at it.");
        checks.run("@a ;", UNDEFINED);
        checks.run("@p ;", UNDEFINED);
        checks.run("1 + @a ;", UNDEFINED);
        checks.run("print ( @a ) ;", UNDEFINED);
        checks.run("a = @a ;", UNDEFINED);
        checks.run("int a ( ) { } @a ;", UNDEFINED);
        checks.run("b = 1 ; c = b + @a * d ;", UNDEFINED);
        checks.gives("a = 1 ; a ;", INT, 1);
        checks.gives("p = ( byte ) 1 ; p ;", BYTE, 1);
    }

    private static void assignment(Checks checks) {
        checks.sentence("NAME = expr: expr; the value is CONVERTED to the KIND of the variable (error KIND at '='),"
            + " put in, and is the value of the whole.");
        checks.gives("long a ; a = 5 ;", LONG, 5);
        checks.gives("int a ; a = ( char ) 5 ;", INT, 5);
        checks.gives("byte a ; a = 5 ;", BYTE, 5);
        checks.gives("long a ; b = a = 5 ; b ;", LONG, 5);
        checks.gives("{ long a ; b = ( a = 5 ) ; } b ;", LONG, 5);
        checks.gives("false == ( a = true ) ;", BOOLEAN, 0);
        checks.gives("7 - ( a = 5 ) ;", INT, 2);
        checks.run("int a ; a @= true ;", KIND);
        checks.run("int a ; byte c ; c @= a = 4 ;", KIND);
        Script script = new Script();
        checks.run(script, "int a = 4 ; a @= ( b = true ) ;", KIND);
        checks.global(script, 0, INT + DECLARED, 4);
        checks.global(script, 1, BOOLEAN, 1);
        checks.run(script, "a = 9 + 1 @/ 0 ;", ZERO);
        checks.global(script, 0, INT + DECLARED, 4);
    }

    private static void assignedWithoutVariable(Checks checks) {
        checks.sentence("A NAME without variable becomes a global of KIND var.");
        Script script = new Script();
        checks.passes(script, "a = 5 ; { b = 6L ; { c = true ; } } int f ( ) { p = ( byte ) 7 ; } f ( ) ;");
        checks.global(script, 0, INT, 5);
        checks.global(script, 1, LONG, 6);
        checks.global(script, 2, BOOLEAN, 1);
        checks.global(script, 15, BYTE, 7);
        checks.gives(script, "a = true ;", BOOLEAN, 1);
        checks.gives(script, "a = 3L ; a ;", LONG, 3);
        checks.gives(script, "d = e = 3L ; d ;", LONG, 3);
        checks.run(script, "g = 1 @/ 0 ;", ZERO);
        checks.global(script, 6, -1, 0);
    }

    private static void updates(Checks checks) {
        checks.sentence("NAME op= expr: the variable is read first (UNDEFINED at NAME), then expr, then the operator"
            + " (errors at the op= sign);");
        checks.run("@a += 1 ;", UNDEFINED);
        checks.run("@a += ( a = 1 ) ;", UNDEFINED);
        checks.run("@a += b ;", UNDEFINED);
        checks.run("@a /= 0 ;", UNDEFINED);
        checks.gives("a = 10 ; a += ( a = 1 ) ; a ;", INT, 11);
        checks.gives("a = 10 ; a -= a -= 3 ; a ;", INT, 3);
        checks.run("a = true ; a += @b ;", UNDEFINED);
        checks.run("a = true ; a += 1 @/ 0 ;", ZERO);
        String[] divisions = {"/=", "%="};
        for (String sign : divisions) {
            checks.run("a = 1 ; a @" + sign + " 0 ;", ZERO);
            checks.run("long a = 1 ; a @" + sign + " 0L ;", ZERO);
        }
        String[] signs = {"+=", "-=", "*=", "/=", "%=", "<<=", ">>=", ">>>=", "&=", "|=", "^="};
        for (String sign : signs) {
            checks.run("a = true ; a @" + sign + " 1 ;", KIND);
            checks.run("a = 1 ; a @" + sign + " true ;", KIND);
        }
        for (int i = 0; i < 8; i++) {
            checks.run("boolean a ; a @" + signs[i] + " true ;", KIND);
        }
        Script script = new Script();
        checks.run(script, "int a = 4 ; a @/= ( b = 0 ) ;", ZERO);
        checks.global(script, 0, INT + DECLARED, 4);
        checks.global(script, 1, INT, 0);
        checks.gives("a = 17 ; a /= 5 ; a ;", INT, 3);
        checks.gives("a = 17 ; a %= 5 ; a ;", INT, 2);
        checks.gives("a = 12 ; a &= 10 ; a ;", INT, 8);
        checks.gives("a = 12 ; a |= 10 ; a ;", INT, 14);
        checks.gives("a = 12 ; a ^= 10 ; a ;", INT, 6);
        checks.gives("a = 1 ; a <<= 33 ; a ;", INT, 2);
        checks.gives("a = - 8 ; a >>= 1 ; a ;", INT, -4);
        checks.gives("a = - 8 ; a >>>= 28 ; a ;", INT, 15);
        checks.gives("boolean a = true ; a &= false ; a ;", BOOLEAN, 0);
    }

    private static void updatesThatCast(Checks checks) {
        checks.sentence("if the variable's KIND is not var, the result is cast to it; put in; the value of the whole.");
        checks.gives("byte a = 100 ; a += 100 ;", BYTE, -56);
        checks.gives("byte a = 1 ; a += 1000000L ; a ;", BYTE, 65);
        checks.gives("char a = 0 ; a -= 1 ;", CHAR, 65535);
        checks.gives("int a = 1 ; a *= 4L ; a ;", INT, 4);
        checks.gives("int a = 1 ; a += 1L << 32 ; a ;", INT, 1);
        checks.gives("long a = 1 ; a += 1 ;", LONG, 2);
        checks.gives("byte a = - 1 ; a >>>= 1 ; a ;", BYTE, -1);
        checks.gives("byte a = 64 ; b = a <<= 1 ; b ;", BYTE, -128);
        checks.gives("{ byte a = 127 ; a += 1 ; b = a ; } b ;", BYTE, -128);
        checks.gives("int f ( byte a ) { a += 1 ; b = a ; } f ( ( byte ) 127 ) ; b ;", BYTE, -128);
        // A var takes the result as it is.
        checks.gives("a = 1 ; a *= 4L ; a ;", LONG, 4);
        checks.gives("a = ( byte ) 1 ; a += ( byte ) 1 ; a ;", INT, 2);
        checks.gives("{ var a = ( byte ) 127 ; a += 1 ; b = a ; } b ;", INT, 128);
        checks.gives("var a = true ; a ^= true ; a ;", BOOLEAN, 0);
        checks.gives("int f ( var a ) { a += 1L ; b = a ; } f ( ( byte ) 127 ) ; b ;", LONG, 128);
    }
}
