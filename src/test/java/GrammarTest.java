import java.util.List;

/** Promise 5 and the terms: the faulty token of a text, marked with '@', or the end of it. */
public final class GrammarTest {
    public static void main(String[] args) {
        Checks checks = new Checks("GrammarTest");
        items(checks);
        methods(checks);
        statements(checks);
        expressions(checks);
        cutOff(checks);
        leaving(checks);
        lengths(checks);
        namesOfScopes(checks);
        nineLocals(checks);
        deepTexts(checks);
        checks.end();
    }

    private static void items(Checks checks) {
        checks.passes("");
        checks.passes("; ; int a ; int a ; { } boolean b = true ;");
        checks.faulty("@}");
        checks.faulty("@)");
        checks.faulty("@else ;");
        checks.faulty("@,");
        checks.faulty("int @;");
        checks.faulty("int @int a ;");
        checks.faulty("int a @+= 1 ;");
        checks.faulty("int a @, b ;");
        checks.faulty("int a = @;");
        checks.faulty("int a = 1 @, b ;");
        checks.faulty("int @5 ;");
        checks.faulty("int a = 1 @}");
    }

    private static void methods(Checks checks) {
        checks.passes("int f ( ) { } var g ( var a ) { } long f ( int a , byte b , boolean c ) { ; }");
        checks.faulty("int f ( @a ) { }");
        checks.faulty("int f ( int @) { }");
        checks.faulty("int f ( int a @int b ) { }");
        checks.faulty("int f ( int a , @) { }");
        checks.faulty("int f ( @, int a ) { }");
        checks.faulty("int f ( int a , int b , int c @, int d ) { }");
        checks.faulty("int f ( int a @= 1 ) { }");
        checks.faulty("int f ( ) @;");
        checks.faulty("int f ( ) @= 1 ;");
        checks.faulty("{ int f @( ) { } }");
        checks.faulty("int f ( ) { int g @( ) { } }");
        checks.faulty("int f ( ) { } @else ;");
        checks.faulty("if ( true ) @int f ( ) { }");
        checks.faulty("int f ( ) { } @}");
    }

    private static void statements(Checks checks) {
        checks.passes("if ( true ) ; if ( true ) ; else ; if ( true ) if ( false ) ; else ; else ;");
        checks.passes("while ( false ) if ( true ) { } else while ( false ) ;");
        checks.faulty("if ( true ) ; else ; @else ;");
        checks.faulty("if ( true ) if ( true ) ; else ; else ; @else ;");
        checks.faulty("if ( true ) { @else ; }");
        checks.faulty("if ( true ) ; ; @else ;");
        checks.faulty("if @true ;");
        checks.faulty("if ( @) ;");
        checks.faulty("if ( true @;");
        checks.faulty("if ( true ) @int a ;");
        checks.faulty("if ( true ) ; else @int a ;");
        checks.faulty("while ( false ) @int a ;");
        checks.faulty("while @;");
        checks.faulty("while ( true @}");
        checks.faulty("{ if ( true ) @}");
        checks.faulty("print @1 ;");
        checks.faulty("print ( @) ;");
        checks.faulty("print ( 1 @, 2 ) ;");
        checks.faulty("print ( 1 ) @1");
        checks.faulty("print ( 1 @;");
        checks.faulty("1 @}");
        checks.faulty("1 @1 ;");
        checks.faulty("1 @) ;");
        checks.faulty("1 @, 2 ;");
        checks.faulty("while ( true ) break @1 ;");
        checks.faulty("int f ( ) { return 1 @} ");
        checks.faulty("int f ( ) { return @int ; } ");
    }

    private static void expressions(Checks checks) {
        checks.faulty("a = 1 + b @= 2 ;");
        checks.faulty("1 + a @= 2 ;");
        checks.faulty("- a @+= 2 ;");
        checks.faulty("( int ) a @= 2 ;");
        checks.faulty("( a ) @= 2 ;");
        checks.faulty("1 @= 2 ;");
        checks.faulty("a ( ) @= 2 ;");
        checks.faulty("a @! ;");
        checks.faulty("a = @= 1 ;");
        checks.faulty("1 + @* 2 ;");
        checks.faulty("1 + @;");
        checks.faulty("( @) ;");
        checks.faulty("( 1 @;");
        checks.faulty("( 1 @, 2 ) ;");
        checks.faulty("( ( 1 ) @;");
        checks.faulty("( 1 ) @) ;");
        checks.faulty("( @var ) 1 ;");
        checks.faulty("( int @1 ) ;");
        checks.faulty("( int ) @;");
        checks.faulty("( int ) @* 1 ;");
        checks.faulty("1 @( ) ;");
        checks.faulty("a @a ;");
        checks.faulty("a ( @, 1 ) ;");
        checks.faulty("a ( 1 , @) ;");
        checks.faulty("a ( 1 @1 ) ;");
        checks.faulty("a ( 1 @;");
        checks.faulty("a ( 1 , 2 , 3 @, 4 ) ;");
        checks.faulty("a ( b ( 1 , 2 , 3 ) , 2 , 3 @, 4 ) ;");
        checks.faulty("a ( ( 1 @, 2 ) ) ;");
        checks.faulty("true @true ;");
        checks.faulty("! @;");
        checks.run("@a ( b = 1 , ( c = 2 ) , ( int ) - 3 ) ;", LooseShell.NO_METHOD);
    }

    /** Every text that ends too early is faulty at its end. */
    private static void cutOff(Checks checks) {
        String whole = "int f ( int a , byte b ) { int c = a ; while ( a < 1 ) { a += f ( 1 , ( byte ) - 2 ) ; "
            + "if ( a == 1 ) break ; else continue ; } return a ; } print ( f ( 1 , ( byte ) 2 ) ) ;";
        List<String> tokens = Script.tokensOf(whole);
        int wholeItems = tokens.lastIndexOf("print");
        for (int length = 0; length < tokens.size(); length++) {
            String text = String.join(" ", tokens.subList(0, length));
            if (length == 0 || length == wholeItems) {
                checks.passes(text);
            } else {
                checks.faulty(text + " @");
            }
        }
        checks.passes(whole);
    }

    private static void leaving(Checks checks) {
        checks.faulty("@break ;");
        checks.faulty("@continue ;");
        checks.faulty("@return ;");
        checks.faulty("@return 1 ;");
        checks.faulty("{ if ( true ) @break ; }");
        checks.faulty("while ( false ) ; @break ;");
        checks.faulty("while ( false ) @return ;");
        checks.faulty("int f ( ) { @break ; }");
        checks.faulty("int f ( ) { while ( false ) { } @continue ; }");
        checks.faulty("int f ( ) { } @return ;");
        checks.passes("while ( true ) { if ( true ) { break ; } continue ; }");
        checks.passes("int f ( ) { while ( true ) { return ; } }");
        checks.passes("while ( false ) while ( false ) ; while ( false ) { while ( false ) ; break ; }");
    }

    /** A sum of so many tokens, which must be odd. */
    private static String sum(int tokens) {
        return "1" + " + 1".repeat((tokens - 1) / 2);
    }

    private static void lengths(Checks checks) {
        checks.passes(sum(31) + " ;");
        checks.passes("- " + sum(31) + " ;");
        checks.faulty(sum(31) + " + @1 ;");
        checks.faulty("- " + sum(31) + " @+ 1 ;");
        checks.faulty("- " + sum(31) + " @1 ;");
        checks.passes("print ( - " + sum(31) + " ) ;");
        checks.faulty("print ( - " + sum(31) + " @+ 1 ) ;");
        checks.faulty("print ( - " + sum(31) + " ) @+ 1 ;");
        checks.passes("int a = - " + sum(31) + " ;");
        checks.faulty("int a = - " + sum(31) + " @+ 1 ;");
        checks.passes("{ int a = - " + sum(31) + " ; }");
        checks.faulty("{ int a = - " + sum(31) + " @+ 1 ; }");
        checks.passes("if ( - " + sum(29) + " < 3 ) ;");
        checks.faulty("if ( - " + sum(29) + " < 3 @+ 1 ) ;");
        checks.faulty("while ( - " + sum(29) + " < 3 @+ 1 ) ;");
        checks.passes("int f ( ) { return - " + sum(31) + " ; }");
        checks.faulty("int f ( ) { return - " + sum(31) + " @+ 1 ; }");
        // What stands in an expression counts with it, and the ')' that ends a part of it too.
        checks.passes("( " + sum(29) + " ) ;");
        checks.faulty("- ( - " + sum(29) + " @) ;");
        checks.run("@f ( 1 , " + sum(27) + " ) ;", LooseShell.NO_METHOD);
        checks.faulty("- f ( 1 , " + sum(27) + " @) ;");
        checks.faulty("- " + sum(29) + " + f @( ) ;");
        checks.faulty("- " + sum(29) + " + ( @int ) 1 ;");
        checks.faulty("- " + sum(29) + " + ( @int 1 ;");
        checks.faulty("- " + sum(29) + " + ( @1 ;");
        checks.faulty(sum(29) + " + ( int @) 1 ;");
        checks.faulty("a = " + sum(29) + " + @1 ;");
        checks.faulty("a = " + sum(29) + " + @");
        checks.faulty("( ".repeat(32) + "@( 1");
        // The length of one expression does not count for the next.
        checks.passes(sum(31) + " ; " + sum(31) + " ; { " + sum(31) + " ; }");
    }

    private static void namesOfScopes(Checks checks) {
        checks.passes("int a ; { int a ; { int a ; } { int a ; } }");
        checks.faulty("{ int a ; byte @a ; }");
        checks.faulty("{ int a ; { int b ; } int b ; int @b = 1 ; }");
        checks.faulty("int f ( int a , int @a ) { }");
        checks.faulty("int f ( int a , int b , var @a ) { }");
        checks.passes("int f ( int a ) { int a ; }");
        checks.faulty("int f ( int a ) { int a ; int @a ; }");
        checks.passes("int f ( int f ) { int g ; } int g ( int a ) { int f ; }");
        checks.faulty("while ( false ) { int a ; if ( true ) { int a ; } int @a ; }");
    }

    private static void nineLocals(Checks checks) {
        String eight = "int a ; int b ; int c ; int d ; int e ; int f ; int g ; int h ; ";
        checks.passes("{ " + eight + "}");
        checks.faulty("{ " + eight + "int @i ; }");
        checks.faulty("{ " + eight + "{ int @a ; } }");
        checks.passes("{ " + eight + "} { " + eight + "} int i ;");
        checks.passes("{ { " + eight + "} int i ; }");
        checks.faulty("int m ( int n , var o ) { int a ; int b ; int c ; int d ; int e ; { int n ; int @a ; } }");
        checks.passes("int m ( int n , var o , byte p ) { int a ; int b ; int c ; int d ; int e ; }");
        checks.faulty("int m ( int n , var o , byte p ) { int a ; int b ; int c ; int d ; int e ; int @f ; }");
        checks.passes("int m ( int n , var o , byte p ) { } { " + eight + "}");
    }

    private static void deepTexts(Checks checks) {
        String[] statements = {"{", "if ( true )", "while ( true )", "if ( true ) ; else"};
        for (String part : statements) {
            int times = 140 / Script.tokensOf(part).size();
            checks.faulty((part + " ").repeat(times) + "@");
        }
        String[] expressions = {"(", "a (", "a =", "a ( 1 ,", "-", "1 +", "1 ||", "- ( int )"};
        for (String part : expressions) {
            int size = Script.tokensOf(part).size();
            String within = (part + " ").repeat(32 / size);
            checks.faulty(within + "@" + (part + " ").repeat(140 / size - 32 / size));
        }
        checks.passes("{ ".repeat(70) + "} ".repeat(70));
        checks.passes("if ( true ) ".repeat(34) + "{ ; }");
        checks.passes("if ( false ) ; else ".repeat(23) + ";");
        checks.passes("while ( false ) ".repeat(34) + "{ ; }");
    }
}
