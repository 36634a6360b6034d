/** What the terms say of evaluation: operators, their kinds, order and errors. */
public final class ExpressionTest {
    private static final int BOOLEAN = LooseShell.BOOLEAN, BYTE = LooseShell.BYTE, CHAR = LooseShell.CHAR;
    private static final int INT = LooseShell.INT, LONG = LooseShell.LONG;
    private static final int KIND = LooseShell.KIND, ZERO = LooseShell.ZERO, UNDEFINED = LooseShell.UNDEFINED;
    private static final String INT_MIN = "( - 2147483647 - 1 )", LONG_MIN = "( 1L << 63 )", LONG_MAX = "~ ( 1L << 63 )";
    private static final String[] VALUES = {"true", "( byte ) 6", "( char ) 6", "6", "6L"};
    private static final String[] NUMERIC = {"*", "/", "%", "+", "-", "<<", ">>", ">>>", "<", "<=", ">", ">="};

    public static void main(String[] args) {
        Checks checks = new Checks("ExpressionTest");
        literals(checks);
        unary(checks);
        not(checks);
        arithmetic(checks);
        byZero(checks);
        shifts(checks);
        comparison(checks);
        equality(checks);
        bits(checks);
        shortcuts(checks);
        wrongKinds(checks);
        casts(checks);
        castErrors(checks);
        grouping(checks);
        levels(checks);
        order(checks);
        checks.end();
    }

    private static void literals(Checks checks) {
        checks.sentence("NUMBER, true, false: themselves.");
        checks.gives("2147483647 ;", INT, Integer.MAX_VALUE);
        checks.gives("2147483647L ;", LONG, Integer.MAX_VALUE);
        checks.gives("0 ;", INT, 0);
        checks.gives("true ;", BOOLEAN, 1);
        checks.gives("false ;", BOOLEAN, 0);
    }

    private static void unary(Checks checks) {
        checks.sentence("+ - ~ (unary): numeric, LONG stays, others become INT.");
        for (int kind = BYTE; kind <= LONG; kind++) {
            int due = kind == LONG ? LONG : INT;
            checks.gives("+ " + VALUES[kind] + " ;", due, 6);
            checks.gives("- " + VALUES[kind] + " ;", due, -6);
            checks.gives("~ " + VALUES[kind] + " ;", due, -7);
        }
        checks.gives("- ( byte ) 128 ;", INT, 128);
        checks.gives("~ ( char ) 65535 ;", INT, -65536);
        checks.gives("- " + INT_MIN + " ;", INT, Integer.MIN_VALUE);
        checks.gives("- ( long ) " + INT_MIN + " ;", LONG, 2147483648L);
        checks.gives("- " + LONG_MIN + " ;", LONG, Long.MIN_VALUE);
        checks.gives("~ " + LONG_MIN + " ;", LONG, Long.MAX_VALUE);
        checks.gives("- - 5 ;", INT, 5);
        checks.run("@- true ;", KIND);
        checks.run("@+ true ;", KIND);
        checks.run("@~ false ;", KIND);
    }

    private static void not(Checks checks) {
        checks.sentence("! : BOOLEAN.");
        checks.gives("! true ;", BOOLEAN, 0);
        checks.gives("! false ;", BOOLEAN, 1);
        checks.gives("! ! true ;", BOOLEAN, 1);
        for (int kind = BYTE; kind <= LONG; kind++) {
            checks.run("@! " + VALUES[kind] + " ;", KIND);
        }
        checks.run("- @! 1 ;", KIND);
    }

    private static void arithmetic(Checks checks) {
        checks.sentence("* / % + - : both numeric, in LONG if one is LONG, else in INT, wrapping as in Java;");
        checks.gives("7 + 3 ;", INT, 10);
        checks.gives("7 - 10 ;", INT, -3);
        checks.gives("7 * 3 ;", INT, 21);
        checks.gives("( - 7 ) / 2 ;", INT, -3);
        checks.gives("( - 7 ) % 2 ;", INT, -1);
        checks.gives("7 % - 2 ;", INT, 1);
        checks.gives("2147483647 + 1 ;", INT, Integer.MIN_VALUE);
        checks.gives("2147483647 + 1L ;", LONG, 2147483648L);
        checks.gives(INT_MIN + " - 1 ;", INT, Integer.MAX_VALUE);
        checks.gives(INT_MIN + " - 1L ;", LONG, -2147483649L);
        checks.gives("2147483647 * 2147483647 ;", INT, 1);
        checks.gives("2147483647 * 2147483647L ;", LONG, 2147483647L * 2147483647L);
        checks.gives("( byte ) 127 + ( byte ) 1 ;", INT, 128);
        checks.gives("( char ) 65535 * ( char ) 65535 ;", INT, -131071);
        checks.gives(INT_MIN + " / - 1 ;", INT, Integer.MIN_VALUE);
        checks.gives(INT_MIN + " / - 1L ;", LONG, 2147483648L);
        checks.gives(INT_MIN + " % - 1 ;", INT, 0);
        checks.gives(LONG_MAX + " + 1 ;", LONG, Long.MIN_VALUE);
        checks.gives(LONG_MIN + " - 1 ;", LONG, Long.MAX_VALUE);
        checks.gives(LONG_MAX + " * 2 ;", LONG, -2);
        checks.gives(LONG_MIN + " / - 1 ;", LONG, Long.MIN_VALUE);
        checks.gives(LONG_MIN + " % - 1 ;", LONG, 0);
        String[] signs = {"*", "/", "%", "+", "-"};
        long[] due = {36, 1, 0, 12, 0};
        for (int i = 0; i < signs.length; i++) {
            ofAllNumericKinds(checks, signs[i], due[i]);
        }
    }

    /** Between 6 and 6 of every numeric kind: in LONG if one is LONG, else in INT. */
    private static void ofAllNumericKinds(Checks checks, String sign, long due) {
        for (int left = BYTE; left <= LONG; left++) {
            for (int right = BYTE; right <= LONG; right++) {
                int kind = left == LONG || right == LONG ? LONG : INT;
                checks.gives(VALUES[left] + " " + sign + " " + VALUES[right] + " ;", kind, due);
            }
        }
    }

    private static void byZero(Checks checks) {
        checks.sentence("/ and % by 0: ZERO at the operator.");
        String[] zeros = {"0", "0L", "( byte ) 0", "( char ) 0", "( 1 - 1 )", "( byte ) 256"};
        for (String zero : zeros) {
            checks.run("1 @/ " + zero + " ;", ZERO);
            checks.run("1 @% " + zero + " ;", ZERO);
            checks.run("1L @/ " + zero + " ;", ZERO);
            checks.run("( byte ) 0 @% " + zero + " ;", ZERO);
        }
        checks.run("2 * 3 @/ 0 + 1 ;", ZERO);
        checks.run("1 + 6 @% 0 * 2 ;", ZERO);
        checks.gives("1 / ( 1L << 32 ) ;", LONG, 0);
        checks.gives("0 / 5 ;", INT, 0);
        checks.gives("0 % 5 ;", INT, 0);
        // The kinds are looked at first.
        checks.run("true @/ 0 ;", KIND);
        checks.run("true @% 0L ;", KIND);
    }

    private static void shifts(Checks checks) {
        checks.sentence("<< >> >>>: both numeric; the result has the left one's kind if that is LONG, else INT;"
            + " by the low 6 (LONG) or 5 (INT) bits of the right one.");
        checks.gives("1 << 0 ;", INT, 1);
        checks.gives("1 << 31 ;", INT, Integer.MIN_VALUE);
        checks.gives("1 << 32 ;", INT, 1);
        checks.gives("1 << 33L ;", INT, 2);
        checks.gives("1 << 63 ;", INT, Integer.MIN_VALUE);
        checks.gives("1 << 64 ;", INT, 1);
        checks.gives("1 << - 1 ;", INT, Integer.MIN_VALUE);
        checks.gives("3 << 31 ;", INT, Integer.MIN_VALUE);
        checks.gives("1L << 32 ;", LONG, 1L << 32);
        checks.gives("1L << 33 ;", LONG, 1L << 33);
        checks.gives("1L << 63 ;", LONG, Long.MIN_VALUE);
        checks.gives("1L << 64 ;", LONG, 1);
        checks.gives("1L << - 1 ;", LONG, Long.MIN_VALUE);
        checks.gives("- 8 >> 1 ;", INT, -4);
        checks.gives("- 8 >> 31 ;", INT, -1);
        checks.gives("- 8 >> 32 ;", INT, -8);
        checks.gives("- 8 >> 33 ;", INT, -4);
        checks.gives("- 8L >> 32 ;", LONG, -1);
        checks.gives("- 8L >> 64 ;", LONG, -8);
        checks.gives("- 1L >> 63 ;", LONG, -1);
        checks.gives("- 1 >>> 28 ;", INT, 15);
        checks.gives("- 1 >>> 31 ;", INT, 1);
        checks.gives("- 1 >>> 0 ;", INT, -1);
        checks.gives("- 1 >>> 32 ;", INT, -1);
        checks.gives("- 1L >>> 60 ;", LONG, 15);
        checks.gives("- 1L >>> 28 ;", LONG, -1L >>> 28);
        checks.gives("- 1L >>> 64 ;", LONG, -1);
        checks.gives("( byte ) 255 >>> 28 ;", INT, 15);
        checks.gives("( byte ) 255 << 31 ;", INT, Integer.MIN_VALUE);
        checks.gives("( char ) 65535 >> 8 ;", INT, 255);
        checks.gives("a = 1L << 40 ; 1 << a + 2 ;", INT, 4);
        checks.gives("a = 1L << 40 ; 1L << a + 2 ;", LONG, 4);
        String[] signs = {"<<", ">>", ">>>"};
        long[] due = {384, 0, 0};
        for (int i = 0; i < signs.length; i++) {
            for (int left = BYTE; left <= LONG; left++) {
                for (int right = BYTE; right <= LONG; right++) {
                    int kind = left == LONG ? LONG : INT;
                    checks.gives(VALUES[left] + " " + signs[i] + " " + VALUES[right] + " ;", kind, due[i]);
                }
            }
        }
    }

    private static void comparison(Checks checks) {
        checks.sentence("< <= > >=: both numeric, by value.");
        String[] signs = {"<", "<=", ">", ">="};
        String[] due = {"100", "110", "001", "011"};
        for (int i = 0; i < signs.length; i++) {
            compare(checks, signs[i], due[i]);
        }
        checks.gives("( char ) 65535 > - 1 ;", BOOLEAN, 1);
        checks.gives("( byte ) 255 < ( char ) 0 ;", BOOLEAN, 1);
        checks.gives("1L << 32 > 2147483647 ;", BOOLEAN, 1);
        checks.gives(INT_MIN + " < 2147483647 ;", BOOLEAN, 1);
        checks.gives(LONG_MIN + " < 0 ;", BOOLEAN, 1);
        checks.gives(LONG_MIN + " < " + LONG_MAX + " ;", BOOLEAN, 1);
    }

    /** The answers for 1, 2 and 3 on the left of 2, in some kinds. */
    private static void compare(Checks checks, String sign, String due) {
        for (int left = 1; left <= 3; left++) {
            int value = due.charAt(left - 1) - '0';
            checks.gives(left + " " + sign + " 2 ;", BOOLEAN, value);
            checks.gives(left + " " + sign + " 2L ;", BOOLEAN, value);
            checks.gives("( byte ) " + left + " " + sign + " ( char ) 2 ;", BOOLEAN, value);
        }
    }

    private static void equality(Checks checks) {
        checks.sentence("== != : both numeric by value, or both BOOLEAN.");
        compare(checks, "==", "010");
        compare(checks, "!=", "101");
        checks.gives("( char ) 65535 == - 1 ;", BOOLEAN, 0);
        checks.gives("( char ) 65535 == ( byte ) - 1 ;", BOOLEAN, 0);
        checks.gives("( 1L << 32 ) == 0 ;", BOOLEAN, 0);
        checks.gives("( 1L << 32 ) != 0 ;", BOOLEAN, 1);
        checks.gives("true == true ;", BOOLEAN, 1);
        checks.gives("true == false ;", BOOLEAN, 0);
        checks.gives("true != true ;", BOOLEAN, 0);
        checks.gives("false != true ;", BOOLEAN, 1);
        mixed(checks, "==");
        mixed(checks, "!=");
    }

    /** A BOOLEAN beside each numeric kind. */
    private static void mixed(Checks checks, String sign) {
        for (int kind = BYTE; kind <= LONG; kind++) {
            checks.run("true @" + sign + " " + VALUES[kind] + " ;", KIND);
            checks.run(VALUES[kind] + " @" + sign + " true ;", KIND);
        }
    }

    private static void bits(Checks checks) {
        checks.sentence("& | ^: both numeric as for +, or both BOOLEAN.");
        checks.gives("12 & 10 ;", INT, 8);
        checks.gives("12 | 10 ;", INT, 14);
        checks.gives("12 ^ 10 ;", INT, 6);
        checks.gives("- 1 & 1L << 40 ;", LONG, 1L << 40);
        checks.gives("- 1 ^ 0L ;", LONG, -1);
        checks.gives("( char ) 65535 & - 1 ;", INT, 65535);
        checks.gives("( byte ) 255 | ( char ) 0 ;", INT, -1);
        String[] signs = {"&", "|", "^"};
        String[] due = {"0001", "0111", "0110"};
        String[] truths = {"false", "true"};
        for (int i = 0; i < signs.length; i++) {
            for (int pair = 0; pair < 4; pair++) {
                String text = truths[pair / 2] + " " + signs[i] + " " + truths[pair % 2] + " ;";
                checks.gives(text, BOOLEAN, due[i].charAt(pair) - '0');
            }
            ofAllNumericKinds(checks, signs[i], i == 2 ? 0 : 6);
            mixed(checks, signs[i]);
        }
        // Both sides are always evaluated.
        checks.run("false & @a ;", UNDEFINED);
        checks.run("true | @a ;", UNDEFINED);
    }

    private static void shortcuts(Checks checks) {
        checks.sentence("&& ||: the left one must be BOOLEAN; the right one is evaluated only if needed, and must be BOOLEAN.");
        String[] signs = {"&&", "||"};
        String[] due = {"0001", "0111"};
        String[] truths = {"false", "true"};
        for (int i = 0; i < signs.length; i++) {
            for (int pair = 0; pair < 4; pair++) {
                String text = truths[pair / 2] + " " + signs[i] + " " + truths[pair % 2] + " ;";
                checks.gives(text, BOOLEAN, due[i].charAt(pair) - '0');
            }
        }
        for (int kind = BYTE; kind <= LONG; kind++) {
            checks.run("true @&& " + VALUES[kind] + " ;", KIND);
            checks.run(VALUES[kind] + " @&& true ;", KIND);
            checks.run("false @|| " + VALUES[kind] + " ;", KIND);
            checks.run(VALUES[kind] + " @|| false ;", KIND);
            // What is not needed may be of any kind.
            checks.gives("true || " + VALUES[kind] + " ;", BOOLEAN, 1);
            checks.gives("false && " + VALUES[kind] + " ;", BOOLEAN, 0);
        }
        checks.gives("false && a ;", BOOLEAN, 0);
        checks.gives("true || a ;", BOOLEAN, 1);
        checks.gives("false && 1 / 0 == 0 || true ;", BOOLEAN, 1);
        checks.gives("true || a && b ;", BOOLEAN, 1);
        checks.run("true && @a ;", UNDEFINED);
        checks.run("false || @a ;", UNDEFINED);
        checks.run("0 @|| a ;", KIND);
        checks.run("1 @&& a ;", KIND);
        checks.run("false || true @&& 1 ;", KIND);
        Script script = new Script();
        checks.passes(script, "false && ( a = true ) ; true || ( b = true ) ; true && ( c = true ) ; false || ( d = true ) ;");
        checks.global(script, 0, -1, 0);
        checks.global(script, 1, -1, 0);
        checks.global(script, 2, BOOLEAN, 1);
        checks.global(script, 3, BOOLEAN, 1);
        checks.run("true && true ; @a ;", UNDEFINED);
        checks.gives("int f ( int a , boolean b ) { return a ; } f ( 5 , true && true ) ;", INT, 5);
        checks.gives("int f ( int a , boolean b ) { return a ; } f ( 5 , false && true ) ;", INT, 5);
        checks.gives("false == ( true || true ) ;", BOOLEAN, 0);
        checks.gives("true == ( false && true ) ;", BOOLEAN, 0);
    }

    private static void wrongKinds(Checks checks) {
        checks.sentence("A wrong kind: KIND at the operator.");
        for (String sign : NUMERIC) {
            mixed(checks, sign);
            checks.run("true @" + sign + " true ;", KIND);
        }
        checks.run("1 + 2 * 3 @- true ;", KIND);
        checks.run("1 + 2 @* true - 3 ;", KIND);
        checks.run("( 1 < 2 ) @< 3 ;", KIND);
        checks.run("1 < 2 @< 3 ;", KIND);
    }

    private static void casts(Checks checks) {
        checks.sentence("(KIND) x: numeric to numeric as Java narrows and widens; BOOLEAN to boolean;");
        checks.gives("( byte ) 127 ;", BYTE, 127);
        checks.gives("( byte ) 128 ;", BYTE, -128);
        checks.gives("( byte ) - 129 ;", BYTE, 127);
        checks.gives("( byte ) 200 ;", BYTE, -56);
        checks.gives("( byte ) 256 ;", BYTE, 0);
        checks.gives("( byte ) ( ( 1L << 40 ) + 5 ) ;", BYTE, 5);
        checks.gives("( byte ) ( char ) 255 ;", BYTE, -1);
        checks.gives("( char ) 65535 ;", CHAR, 65535);
        checks.gives("( char ) 65536 ;", CHAR, 0);
        checks.gives("( char ) - 1 ;", CHAR, 65535);
        checks.gives("( char ) ( byte ) - 1 ;", CHAR, 65535);
        checks.gives("( char ) ( ( 1L << 40 ) + 65537 ) ;", CHAR, 1);
        checks.gives("( int ) ( ( 1L << 32 ) + 5 ) ;", INT, 5);
        checks.gives("( int ) ( 1L << 31 ) ;", INT, Integer.MIN_VALUE);
        checks.gives("( int ) ( byte ) - 1 ;", INT, -1);
        checks.gives("( int ) ( char ) - 1 ;", INT, 65535);
        checks.gives("( long ) - 5 ;", LONG, -5);
        checks.gives("( long ) ( char ) - 1 ;", LONG, 65535);
        checks.gives("( long ) " + LONG_MIN + " ;", LONG, Long.MIN_VALUE);
        checks.gives("( boolean ) true ;", BOOLEAN, 1);
        checks.gives("( boolean ) false ;", BOOLEAN, 0);
        checks.gives("( byte ) 1 + 1 ;", INT, 2);
        checks.gives("- ( byte ) 1 ;", INT, -1);
        checks.gives("( byte ) - 1 ;", BYTE, -1);
    }

    private static void castErrors(Checks checks) {
        checks.sentence("else KIND at '('.");
        String[] kinds = {"boolean", "byte", "char", "int", "long"};
        for (int kind = BYTE; kind <= LONG; kind++) {
            checks.run("@( boolean ) " + VALUES[kind] + " ;", KIND);
            checks.run("@( " + kinds[kind] + " ) true ;", KIND);
        }
        checks.run("1 + @( byte ) false ;", KIND);
        checks.run("( int ) @( boolean ) 0 ;", KIND);
    }

    private static void grouping(Checks checks) {
        checks.sentence("binary operators over unary, all grouping to the left; from the loosest to the tightest:");
        checks.gives("20 - 5 - 3 ;", INT, 12);
        checks.gives("20 - 5 + 3 ;", INT, 18);
        checks.gives("20 / 5 * 2 ;", INT, 8);
        checks.gives("17 % 10 * 2 ;", INT, 14);
        checks.gives("64 >> 2 << 1 ;", INT, 32);
        checks.gives("1 << 1 << 3 ;", INT, 16);
        checks.gives("false == false == false ;", BOOLEAN, 0);
        checks.gives("2 != 2 == false ;", BOOLEAN, 1);
        checks.gives("! true == false ;", BOOLEAN, 1);
        checks.gives("- 1 + 2 ;", INT, 1);
        checks.gives("- 2 * 3 ;", INT, -6);
        checks.gives("~ 1 & 1 ;", INT, 0);
        checks.gives("1 - - 1 ;", INT, 2);
        checks.gives("( 2 + 3 ) * 4 ;", INT, 20);
        checks.gives("( true || true ) && false ;", BOOLEAN, 0);
        checks.gives("a = 1 + 2 * 3 ; a ;", INT, 7);
        checks.gives("a = b = 2 ; a + b ;", INT, 4);
        checks.gives("1 + ( a = 2 ) * 3 ;", INT, 7);
    }

    /** Each level beside the next tighter one, on both sides of it. */
    private static void levels(Checks checks) {
        checks.gives("true || true && false ;", BOOLEAN, 1);
        checks.gives("false && true || true ;", BOOLEAN, 1);
        checks.gives("false && true | true ;", BOOLEAN, 0);
        checks.gives("true | true && false ;", BOOLEAN, 0);
        checks.gives("true | true ^ true ;", BOOLEAN, 1);
        checks.gives("true ^ true | true ;", BOOLEAN, 1);
        checks.gives("1 | 3 ^ 1 ;", INT, 3);
        checks.gives("true ^ true & false ;", BOOLEAN, 1);
        checks.gives("false & true ^ true ;", BOOLEAN, 1);
        checks.gives("3 & 2 ^ 1 ;", INT, 3);
        checks.gives("6 | 3 & 5 ;", INT, 7);
        checks.gives("4 ^ 6 & 3 ;", INT, 6);
        checks.gives("true & 2 == 2 ;", BOOLEAN, 1);
        checks.gives("2 == 2 & true ;", BOOLEAN, 1);
        checks.gives("1 < 2 == true ;", BOOLEAN, 1);
        checks.gives("true == 1 < 2 ;", BOOLEAN, 1);
        checks.gives("1 << 2 < 5 ;", BOOLEAN, 1);
        checks.gives("1 < 4 >> 1 ;", BOOLEAN, 1);
        checks.gives("1 << 2 + 1 ;", INT, 8);
        checks.gives("3 - 1 << 1 ;", INT, 4);
        checks.gives("3 << 1 - 1 ;", INT, 3);
        checks.gives("2 + 3 * 4 ;", INT, 14);
        checks.gives("3 * 4 + 2 ;", INT, 14);
        checks.gives("9 - 2 * 3 ;", INT, 3);
    }

    private static void order(Checks checks) {
        checks.sentence("EVALUATION, operands always from left to right, the checks of an operator after its operands:");
        checks.gives("a = 1 ; a + ( a = 5 ) * a ;", INT, 26);
        checks.gives("a = 1 ; ( a = 2 ) - a ;", INT, 0);
        checks.gives("a = 1 ; a - ( a = 2 ) ;", INT, -1);
        checks.run("@a + b ;", UNDEFINED);
        checks.run("1 @/ 0 + b ;", ZERO);
        checks.run("true + @b ;", UNDEFINED);
        checks.run("true * ( 1 @/ 0 ) ;", ZERO);
        checks.run("( true @+ 1 ) + b ;", KIND);
        checks.run("@- true + b ;", KIND);
        checks.run("- ( true @+ 1 ) ;", KIND);
        checks.run("( boolean ) ( 1 @/ 0 ) ;", ZERO);
        Script script = new Script();
        checks.run(script, "true @+ ( a = 1 ) ;", KIND);
        checks.global(script, 0, INT, 1);
    }
}
