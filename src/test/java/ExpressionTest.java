/** What the terms say of evaluation: operators, their kinds, order and errors. */
public final class ExpressionTest {
    private static final int BOOLEAN = LooseShell.BOOLEAN, BYTE = LooseShell.BYTE, CHAR = LooseShell.CHAR;
    private static final int INT = LooseShell.INT, LONG = LooseShell.LONG;
    private static final int KIND = LooseShell.KIND, ZERO = LooseShell.ZERO;

    public static void main(String[] args) {
        Checks checks = new Checks("ExpressionTest");
        unary(checks);
        arithmetic(checks);
        kindsOfResults(checks);
        shifts(checks);
        comparison(checks);
        bits(checks);
        shortcuts(checks);
        casts(checks);
        grouping(checks);
        order(checks);
        checks.end();
    }

    private static void unary(Checks checks) {
        checks.gives("- 5 ;", INT, -5);
        checks.gives("- 5L ;", LONG, -5);
        checks.gives("+ ( byte ) 5 ;", INT, 5);
        checks.gives("- ( char ) 5 ;", INT, -5);
        checks.gives("~ ( byte ) 5 ;", INT, -6);
        checks.gives("~ 5L ;", LONG, -6);
        checks.gives("- ( 0 - 2147483647 - 1 ) ;", INT, Integer.MIN_VALUE);
        checks.gives("- - 5 ;", INT, 5);
        checks.gives("! true ;", BOOLEAN, 0);
        checks.gives("! ! true ;", BOOLEAN, 1);
        checks.run("@- true ;", KIND);
        checks.run("@+ true ;", KIND);
        checks.run("@~ false ;", KIND);
        checks.run("@! 1 ;", KIND);
        checks.run("- @! 1 ;", KIND);
    }

    private static void arithmetic(Checks checks) {
        checks.gives("7 + 3 ;", INT, 10);
        checks.gives("7 - 10 ;", INT, -3);
        checks.gives("7 * 3 ;", INT, 21);
        checks.gives("( - 7 ) / 2 ;", INT, -3);
        checks.gives("( - 7 ) % 2 ;", INT, -1);
        checks.gives("2147483647 + 1 ;", INT, Integer.MIN_VALUE);
        checks.gives("2147483647 * 2147483647 ;", INT, 1);
        checks.gives("2147483647 * 2147483647L ;", LONG, 2147483647L * 2147483647L);
        checks.gives("( 0 - 2147483647 - 1 ) / - 1 ;", INT, Integer.MIN_VALUE);
        checks.gives("( 0 - 2147483647 - 1 ) % - 1 ;", INT, 0);
        checks.gives("a = 1L << 63 ; a / - 1 ;", LONG, Long.MIN_VALUE);
        checks.gives("a = 1L << 63 ; a - 1 ;", LONG, Long.MAX_VALUE);
        checks.gives("a = 1L << 63 ; a % - 1 ;", LONG, 0);
        String[] zeros = {"0", "0L", "( byte ) 0", "( char ) 0"};
        for (String zero : zeros) {
            checks.run("1 @/ " + zero + " ;", ZERO);
            checks.run("1L @% " + zero + " ;", ZERO);
        }
        String[] signs = {"*", "/", "%", "+", "-", "<<", ">>", ">>>", "<", "<=", ">", ">="};
        for (String sign : signs) {
            checks.run("1 @" + sign + " true ;", KIND);
            checks.run("true @" + sign + " 1 ;", KIND);
            checks.run("true @" + sign + " true ;", KIND);
        }
        checks.run("true @/ 0 ;", KIND);
    }

    private static void kindsOfResults(Checks checks) {
        String[] values = {"", "( byte ) 6", "( char ) 6", "6", "6L"};
        String[] signs = {"*", "/", "%", "+", "-", "&", "|", "^"};
        for (String sign : signs) {
            for (int left = 1; left < 5; left++) {
                for (int right = 1; right < 5; right++) {
                    Script script = new Script();
                    String text = values[left] + " " + sign + " " + values[right] + " ;";
                    checks.passes(script, text);
                    int due = left == LONG || right == LONG ? LONG : INT;
                    checks.same("resultKind of: " + text, script.shell.resultKind(), due);
                }
            }
        }
    }

    private static void shifts(Checks checks) {
        checks.gives("1 << 31 ;", INT, Integer.MIN_VALUE);
        checks.gives("1 << 32 ;", INT, 1);
        checks.gives("1 << 33L ;", INT, 2);
        checks.gives("1L << 33 ;", LONG, 1L << 33);
        checks.gives("1L << 64 ;", LONG, 1);
        checks.gives("1 << - 1 ;", INT, Integer.MIN_VALUE);
        checks.gives("- 8 >> 1 ;", INT, -4);
        checks.gives("- 8 >> 33 ;", INT, -4);
        checks.gives("- 1 >>> 28 ;", INT, 15);
        checks.gives("- 1 >>> 0 ;", INT, -1);
        checks.gives("- 1L >>> 60 ;", LONG, 15);
        checks.gives("- 1L >>> 28 ;", LONG, -1L >>> 28);
        checks.gives("- 1L >> 63 ;", LONG, -1);
        checks.gives("( byte ) 255 >>> 28 ;", INT, 15);
        checks.gives("8 << 1L ;", INT, 16);
        checks.gives("8 >> 1L ;", INT, 4);
        checks.gives("8 >>> 1L ;", INT, 4);
        checks.gives("( char ) 1 << ( byte ) 3 ;", INT, 8);
        checks.gives("a = 1L << 40 ; 1 << a + 2 ;", INT, 4);
    }

    private static void comparison(Checks checks) {
        String[] signs = {"<", "<=", ">", ">=", "==", "!="};
        String[] due = {"100", "110", "001", "011", "010", "101"};
        for (int i = 0; i < signs.length; i++) {
            for (int left = 1; left <= 3; left++) {
                int value = due[i].charAt(left - 1) - '0';
                checks.gives(left + " " + signs[i] + " 2L ;", BOOLEAN, value);
                checks.gives("( byte ) " + left + " " + signs[i] + " ( char ) 2 ;", BOOLEAN, value);
            }
        }
        checks.gives("( char ) 65535 == - 1 ;", BOOLEAN, 0);
        checks.gives("( 1L << 32 ) == 0 ;", BOOLEAN, 0);
        checks.gives("true == true ;", BOOLEAN, 1);
        checks.gives("true != true ;", BOOLEAN, 0);
        checks.gives("false != true ;", BOOLEAN, 1);
        checks.run("true @== 1 ;", KIND);
        checks.run("0 @!= false ;", KIND);
    }

    private static void bits(Checks checks) {
        checks.gives("12 & 10 ;", INT, 8);
        checks.gives("12 | 10 ;", INT, 14);
        checks.gives("12 ^ 10 ;", INT, 6);
        checks.gives("- 1 & 1L << 40 ;", LONG, 1L << 40);
        checks.gives("true & false ;", BOOLEAN, 0);
        checks.gives("true | false ;", BOOLEAN, 1);
        checks.gives("true ^ true ;", BOOLEAN, 0);
        checks.run("true @& 1 ;", KIND);
        checks.run("1 @| false ;", KIND);
        checks.run("1L @^ false ;", KIND);
    }

    private static void shortcuts(Checks checks) {
        checks.gives("true && false ;", BOOLEAN, 0);
        checks.gives("true && true ;", BOOLEAN, 1);
        checks.gives("false || true ;", BOOLEAN, 1);
        checks.gives("false || false ;", BOOLEAN, 0);
        checks.gives("false && a ;", BOOLEAN, 0);
        checks.gives("true || a ;", BOOLEAN, 1);
        checks.gives("false && 1 ;", BOOLEAN, 0);
        checks.gives("false && 1 / 0 == 0 || true ;", BOOLEAN, 1);
        checks.gives("true || a && b ;", BOOLEAN, 1);
        checks.run("true && true ; @a ;", LooseShell.UNDEFINED);
        checks.gives("int f ( int a , boolean b ) { return a ; } f ( 5 , true && true ) ;", INT, 5);
        checks.run("true && @a ;", LooseShell.UNDEFINED);
        checks.run("false || @a ;", LooseShell.UNDEFINED);
        checks.run("1 @&& true ;", KIND);
        checks.run("0 @|| a ;", KIND);
        checks.run("true @&& 1 ;", KIND);
        checks.run("false @|| 1L ;", KIND);
        checks.run("false || true @&& 1 ;", KIND);
    }

    private static void casts(Checks checks) {
        checks.gives("( byte ) 200 ;", BYTE, -56);
        checks.gives("( byte ) ( 1L << 40 ) ;", BYTE, 0);
        checks.gives("( char ) - 1 ;", CHAR, 65535);
        checks.gives("( char ) ( byte ) - 1 ;", CHAR, 65535);
        checks.gives("( byte ) ( char ) 255 ;", BYTE, -1);
        checks.gives("( int ) ( ( 1L << 32 ) + 5 ) ;", INT, 5);
        checks.gives("( long ) - 5 ;", LONG, -5);
        checks.gives("( boolean ) true ;", BOOLEAN, 1);
        checks.gives("( byte ) 1 + 1 ;", INT, 2);
        checks.gives("- ( byte ) 1 ;", INT, -1);
        checks.gives("( byte ) - 1 ;", BYTE, -1);
        checks.run("@( boolean ) 1 ;", KIND);
        checks.run("@( int ) true ;", KIND);
        checks.run("1 + @( byte ) false ;", KIND);
    }

    private static void grouping(Checks checks) {
        checks.gives("2 + 3 * 4 ;", INT, 14);
        checks.gives("( 2 + 3 ) * 4 ;", INT, 20);
        checks.gives("20 - 5 - 3 ;", INT, 12);
        checks.gives("20 / 5 * 2 ;", INT, 8);
        checks.gives("17 % 10 * 2 ;", INT, 14);
        checks.gives("1 << 2 + 1 ;", INT, 8);
        checks.gives("64 >> 2 << 1 ;", INT, 32);
        checks.gives("1 << 2 < 5 ;", BOOLEAN, 1);
        checks.gives("1 < 2 == true ;", BOOLEAN, 1);
        checks.gives("true == 1 < 2 ;", BOOLEAN, 1);
        checks.gives("3 & 2 ^ 1 ;", INT, 3);
        checks.gives("1 | 3 ^ 1 ;", INT, 3);
        checks.gives("6 | 3 & 5 ;", INT, 7);
        checks.gives("4 ^ 6 & 3 ;", INT, 6);
        checks.gives("true | false ^ true ;", BOOLEAN, 1);
        checks.gives("2 == 2 & true ;", BOOLEAN, 1);
        checks.gives("true & 2 == 2 ;", BOOLEAN, 1);
        checks.gives("1 < 4 >> 1 ;", BOOLEAN, 1);
        checks.gives("3 << 1 - 1 ;", INT, 3);
        checks.gives("9 - 2 * 3 ;", INT, 3);
        checks.gives("true ^ true & false ;", BOOLEAN, 1);
        checks.gives("true | true ^ true ;", BOOLEAN, 1);
        checks.gives("true || true && false ;", BOOLEAN, 1);
        checks.gives("( true || true ) && false ;", BOOLEAN, 0);
        checks.gives("false && true | true ;", BOOLEAN, 0);
        checks.gives("! true == false ;", BOOLEAN, 1);
        checks.gives("- 1 + 2 ;", INT, 1);
        checks.gives("1 - - 1 ;", INT, 2);
        checks.gives("a = 1 + 2 * 3 ; a ;", INT, 7);
        checks.gives("a = b = 2 ; a + b ;", INT, 4);
        checks.gives("1 + ( a = 2 ) * 3 ;", INT, 7);
    }

    private static void order(Checks checks) {
        checks.gives("a = 1 ; a + ( a = 5 ) * a ;", INT, 26);
        checks.gives("a = 1 ; ( a = 2 ) - a ;", INT, 0);
        checks.run("@a + b ;", LooseShell.UNDEFINED);
        checks.run("1 @/ 0 + b ;", ZERO);
        checks.run("true + @b ;", LooseShell.UNDEFINED);
        checks.run("( true @+ 1 ) + b ;", KIND);
        Script script = new Script();
        checks.run(script, "true @+ ( a = 1 ) ;", KIND);
        checks.global(script, 0, INT, 1);
    }
}
