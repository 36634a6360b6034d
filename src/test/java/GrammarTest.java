import java.util.List;

/** Promise 5 and the terms: the faulty token of a text, marked with '@', or the end of it. */
public final class GrammarTest {
    private static final int NO_METHOD = LooseShell.NO_METHOD;

    public static void main(String[] args) {
        Checks checks = new Checks("GrammarTest");
        checks.sentence("FAULTY TOKEN: the first token with which no program of this grammar can go on");
        items(checks);
        methods(checks);
        statements(checks);
        expressions(checks);
        deepTexts(checks);
        theFirstOfSeveral(checks);
        parameters(checks);
        arguments(checks);
        elses(checks);
        assignments(checks);
        casts(checks);
        lengths(checks);
        lengthsOfParts(checks);
        loopJumps(checks);
        returns(checks);
        namesOfScopes(checks);
        nineLocals(checks);
        scopesOfTheNine(checks);
        cutOff(checks);
        checks.end();
    }

    private static void items(Checks checks) {
        checks.passes("");
        checks.passes("; ; int a ; int a ; { } boolean b = true ;");
        checks.faulty("@}");
        checks.faulty("@)");
        checks.faulty("@else ;");
        checks.faulty("@,");
        checks.faulty("@= 1 ;");
        checks.faulty("int @;");
        checks.faulty("int @int a ;");
        checks.faulty("int a @+= 1 ;");
        checks.faulty("int a @, b ;");
        checks.faulty("int a = @;");
        checks.faulty("int a = 1 @, b ;");
        checks.faulty("int @5 ;");
        checks.faulty("int a = 1 @}");
    }

    private static void methods(Checks checks) {
        checks.passes("int f ( ) { } var g ( var a ) { } long f ( int a , byte b , boolean c ) { ; }");
        checks.faulty("int f ( @a ) { }");
        checks.faulty("int f ( int @) { }");
        checks.faulty("int f ( int a @int b ) { }");
        checks.faulty("int f ( int a , @) { }");
        checks.faulty("int f ( @, int a ) { }");
        checks.faulty("int f ( int a @= 1 ) { }");
        checks.faulty("int f ( ) @;");
        checks.faulty("int f ( ) @= 1 ;");
        checks.faulty("{ int f @( ) { } }");
        checks.faulty("int f ( ) { int g @( ) { } }");
        checks.faulty("int f ( ) { } @else ;");
        checks.faulty("if ( true ) @int f ( ) { }");
        checks.faulty("int f ( ) { } @}");
    }

    private static void statements(Checks checks) {
        checks.passes("if ( true ) ; if ( true ) ; else ; if ( true ) if ( false ) ; else ; else ;");
        checks.passes("while ( false ) if ( true ) { } else while ( false ) ;");
        checks.faulty("if @true ;");
        checks.faulty("if ( @) ;");
        checks.faulty("if ( true @;");
        checks.faulty("if ( true ) @int a ;");
        checks.faulty("if ( true ) ; else @int a ;");
        checks.faulty("while ( false ) @int a ;");
        checks.faulty("while @;");
        checks.faulty("while ( true @}");
        checks.faulty("{ if ( true ) @}");
        checks.faulty("print @1 ;");
        checks.faulty("print ( @) ;");
        checks.faulty("print ( 1 @, 2 ) ;");
        checks.faulty("print ( 1 ) @1");
        checks.faulty("print ( 1 @;");
        checks.faulty("1 @}");
        checks.faulty("1 @1 ;");
        checks.faulty("1 @) ;");
        checks.faulty("1 @, 2 ;");
        checks.faulty("while ( true ) break @1 ;");
        checks.faulty("int f ( ) { return 1 @} ");
        checks.faulty("int f ( ) { return @int ; } ");
    }

    private static void expressions(Checks checks) {
        checks.faulty("a @! ;");
        checks.faulty("1 + @* 2 ;");
        checks.faulty("1 + @;");
        checks.faulty("( @) ;");
        checks.faulty("( 1 @;");
        checks.faulty("( 1 @, 2 ) ;");
        checks.faulty("( ( 1 ) @;");
        checks.faulty("( 1 ) @) ;");
        checks.faulty("1 @( ) ;");
        checks.faulty("a @a ;");
        checks.faulty("a ( @, 1 ) ;");
        checks.faulty("a ( 1 , @) ;");
        checks.faulty("a ( 1 @1 ) ;");
        checks.faulty("a ( 1 @;");
        checks.faulty("a ( ( 1 @, 2 ) ) ;");
        checks.faulty("true @true ;");
        checks.faulty("! @;");
    }

    private static void deepTexts(Checks checks) {
        String[] statements = {"{", "if ( true )", "while ( true )", "if ( true ) ; else"};
        for (String part : statements) {
            int times = 140 / Script.tokensOf(part).size();
            checks.faulty((part + " ").repeat(times) + "@");
        }
        checks.passes("{ ".repeat(70) + "} ".repeat(70));
        checks.passes("if ( true ) ".repeat(34) + "{ ; }");
        checks.passes("if ( false ) ; else ".repeat(23) + ";");
        checks.passes("while ( false ) ".repeat(34) + "{ ; }");
        checks.gives("1 ; ".repeat(69) + "2 ;", LooseShell.INT, 2);
        checks.gives("a = 1 ; " + "a += 1 ; ".repeat(33) + "a ;", LooseShell.INT, 34);
    }

    private static void theFirstOfSeveral(Checks checks) {
        checks.faulty("@) break ;");
        checks.faulty("{ int a ; int @a ; } break ; )");
        checks.faulty("@break ; int f ( int a , int a ) { }");
        checks.faulty("1 @= 2 ; " + sum(33) + " ;");
        checks.faulty("; ; @return ; }");
    }

    private static void parameters(Checks checks) {
        checks.sentence("at most 3 parameters: the ',' before a fourth is faulty.");
        checks.passes("int f ( ) { } int f ( int a ) { } int f ( int a , int b ) { } int f ( int a , int b , int c ) { }");
        checks.faulty("int f ( int a , int b , int c @, int d ) { }");
        checks.faulty("int f ( int a , int b , int c @, )");
        checks.faulty("int f ( int a , int b , int c @,");
        checks.faulty("int f ( int a , int b , int c @, int d , int e ) { }");
        checks.faulty("var f ( var a , byte b , boolean c @, int a ) { }");
    }

    private static void arguments(Checks checks) {
        checks.sentence("at most 3 arguments: the ',' before a fourth is faulty.");
        checks.run("@a ( ) ;", NO_METHOD);
        checks.run("@a ( 1 ) ;", NO_METHOD);
        checks.run("@a ( 1 , 2 ) ;", NO_METHOD);
        checks.run("@a ( 1 , 2 , 3 ) ;", NO_METHOD);
        checks.run("@a ( b = 1 , ( c = 2 ) , ( int ) - 3 ) ;", NO_METHOD);
        checks.faulty("a ( 1 , 2 , 3 @, 4 ) ;");
        checks.faulty("a ( 1 , 2 , 3 @, ) ;");
        checks.faulty("a ( 1 , 2 , 3 @,");
        checks.faulty("a ( b = 1 , 2 + 3 , - 3 @, 4 , 5 ) ;");
        // Every call counts its own.
        checks.faulty("a ( b ( 1 , 2 , 3 ) , 2 , 3 @, 4 ) ;");
        checks.faulty("a ( 1 , 2 , b ( 1 , 2 , 3 @, 4 ) ) ;");
        checks.run("a ( @b ( 1 , 2 , 3 ) , c ( 1 , 2 , 3 ) , d ( 1 , 2 , 3 ) ) ;", NO_METHOD);
    }

    private static void elses(Checks checks) {
        checks.sentence("(an else belongs to the nearest if)");
        checks.faulty("if ( true ) ; else ; @else ;");
        checks.faulty("if ( true ) if ( true ) ; else ; else ; @else ;");
        checks.faulty("if ( true ) { @else ; }");
        checks.faulty("if ( true ) ; ; @else ;");
        checks.faulty("while ( false ) ; @else ;");
        checks.passes("if ( true ) while ( false ) if ( true ) ; else ; else ;");
        checks.gives("a = 0 ; if ( true ) if ( false ) a = 1 ; else a = 2 ; a ;", LooseShell.INT, 2);
        checks.gives("a = 0 ; if ( false ) if ( true ) a = 1 ; else a = 2 ; a ;", LooseShell.INT, 0);
        checks.gives("a = 0 ; if ( false ) if ( true ) a = 1 ; else a = 2 ; else a = 3 ; a ;", LooseShell.INT, 3);
        checks.gives("a = 0 ; if ( false ) { if ( true ) a = 1 ; } else a = 2 ; a ;", LooseShell.INT, 2);
        checks.gives("a = 0 ; if ( false ) while ( true ) if ( true ) a = 1 ; else a = 2 ; a ;", LooseShell.INT, 0);
    }

    private static void assignments(Checks checks) {
        checks.sentence("expr = NAME ASSIGN expr if a NAME and an ASSIGN stand here; else binary");
        checks.passes("a = b = c = 1 ; a += b -= c *= 2 ; ( a = 1 ) ; ( ( a ) ) + ( b = 2 ) ; - ( a = 3 ) ; int d = a = 4 ;");
        checks.faulty("a = 1 + b @= 2 ;");
        checks.faulty("1 + a @= 2 ;");
        checks.faulty("a + b @= 2 ;");
        checks.faulty("true || a @= true ;");
        checks.faulty("- a @+= 2 ;");
        checks.faulty("( int ) a @= 2 ;");
        checks.faulty("( a ) @= 2 ;");
        checks.faulty("1 @= 2 ;");
        checks.faulty("a ( ) @= 2 ;");
        checks.faulty("a = @= 1 ;");
        checks.faulty("a = b + c @>>>= 1 ;");
        checks.sentence("ASSIGN is '=' or one of 43..53.");
        for (int word = 0; word <= 53; word++) {
            boolean assign = word == 21 || word >= 43;
            boolean follows = word == 15 || word == 20 || (word >= 24 && word <= 42);
            String text = "a %" + Script.WORDS[word] + " b = 1 ;";
            if (!follows) {
                checks.run("a = 1 ; " + text.replace("%", assign ? "" : "@"), assign ? LooseShell.OK : LooseShell.SYNTAX);
            }
        }
    }

    private static void casts(Checks checks) {
        checks.sentence("'(' KIND ')' unary (not 'var')");
        checks.passes("( byte ) 1 ; ( char ) 1 ; ( int ) 1 ; ( long ) 1 ; ( boolean ) true ; ( int ) ( byte ) - ( 1 ) ;");
        checks.faulty("( @var ) 1 ;");
        checks.faulty("1 + ( @var ) 1 ;");
        checks.faulty("( int @1 ) ;");
        checks.faulty("( int ) @;");
        checks.faulty("( int ) @* 1 ;");
        checks.faulty("( int @a ) 1 ;");
    }

    /** A sum of so many tokens, which must be odd. */
    private static String sum(int tokens) {
        return "1" + " + 1".repeat((tokens - 1) / 2);
    }

    private static void lengths(Checks checks) {
        checks.sentence("a FULL EXPRESSION (one that stands in a statement, a header or a declaration, all that it contains included)"
            + " would have 33 tokens with it");
        checks.passes(sum(31) + " ;");
        checks.passes("- " + sum(31) + " ;");
        checks.faulty(sum(31) + " + @1 ;");
        checks.faulty("- " + sum(31) + " @+ 1 ;");
        checks.faulty("- " + sum(31) + " @1 ;");
        checks.passes("print ( - " + sum(31) + " ) ;");
        checks.faulty("print ( - " + sum(31) + " @+ 1 ) ;");
        checks.faulty("print ( - " + sum(31) + " ) @+ 1 ;");
        checks.passes("int a = - " + sum(31) + " ;");
        checks.faulty("int a = - " + sum(31) + " @+ 1 ;");
        checks.passes("{ int a = - " + sum(31) + " ; }");
        checks.faulty("{ int a = - " + sum(31) + " @+ 1 ; }");
        checks.passes("if ( - " + sum(29) + " < 3 ) ;");
        checks.faulty("if ( - " + sum(29) + " < 3 @+ 1 ) ;");
        checks.passes("while ( - " + sum(29) + " < 3 ) ;");
        checks.faulty("while ( - " + sum(29) + " < 3 @+ 1 ) ;");
        checks.passes("int f ( ) { return - " + sum(31) + " ; }");
        checks.faulty("int f ( ) { return - " + sum(31) + " @+ 1 ; }");
        checks.passes("if ( true ) - " + sum(31) + " ; else - " + sum(31) + " ;");
        checks.faulty("if ( true ) - " + sum(31) + " ; else - " + sum(31) + " @+ 1 ;");
        // The length of one expression does not count for the next.
        checks.passes(sum(31) + " ; " + sum(31) + " ; { " + sum(31) + " ; }");
    }

    private static void lengthsOfParts(Checks checks) {
        checks.passes("( " + sum(29) + " ) ;");
        checks.passes("- ( " + sum(29) + " ) ;");
        checks.faulty("- ( - " + sum(29) + " @) ;");
        checks.passes("a = " + sum(29) + " ;");
        checks.passes("a = - " + sum(29) + " ;");
        checks.faulty("a = - " + sum(29) + " @+ 1 ;");
        checks.faulty("a = " + sum(29) + " + @1 ;");
        checks.run("@f ( 1 , " + sum(27) + " ) ;", NO_METHOD);
        checks.faulty("- f ( 1 , " + sum(27) + " @) ;");
        checks.faulty("- " + sum(29) + " + f @( ) ;");
        checks.run("- " + sum(29) + " + @f ;", LooseShell.UNDEFINED);
        checks.faulty(sum(29) + " + f ( @) ;");
        checks.run("- " + sum(27) + " + @f ( ) ;", NO_METHOD);
        checks.faulty("- " + sum(29) + " + ( @int ) 1 ;");
        checks.faulty("- " + sum(29) + " + ( @int 1 ;");
        checks.faulty("- " + sum(29) + " + ( @1 ;");
        checks.faulty(sum(29) + " + ( int @) 1 ;");
        checks.faulty("a = " + sum(29) + " + @");
        checks.faulty("( ".repeat(32) + "@( 1");
        String[] expressions = {"(", "a (", "a =", "a ( 1 ,", "-", "1 +", "1 ||", "- ( int )"};
        for (String part : expressions) {
            int size = Script.tokensOf(part).size();
            String within = (part + " ").repeat(32 / size);
            checks.faulty(within + "@" + (part + " ").repeat(140 / size - 32 / size));
        }
    }

    private static void loopJumps(Checks checks) {
        checks.sentence("'break' or 'continue' outside of every while of its method (or of the items)");
        String[] words = {"break", "continue"};
        for (String word : words) {
            checks.faulty("@" + word + " ;");
            checks.faulty("@" + word);
            checks.faulty("{ if ( true ) @" + word + " ; }");
            checks.faulty("if ( true ) ; else @" + word + " ;");
            checks.faulty("while ( false ) ; @" + word + " ;");
            checks.faulty("while ( false ) { while ( false ) ; } { @" + word + " ; }");
            checks.faulty("int f ( ) { @" + word + " ; }");
            checks.faulty("int f ( ) { while ( false ) { } @" + word + " ; }");
            checks.faulty("int f ( ) { while ( false ) " + word + " ; } @" + word + " ;");
            checks.passes("while ( false ) " + word + " ;");
            checks.passes("while ( false ) { if ( true ) { " + word + " ; } else " + word + " ; " + word + " ; }");
            checks.passes("while ( false ) { while ( false ) ; " + word + " ; }");
            checks.passes("int f ( ) { while ( false ) { { " + word + " ; } } }");
        }
    }

    private static void returns(Checks checks) {
        checks.sentence("'return' outside of a method");
        checks.faulty("@return ;");
        checks.faulty("@return 1 ;");
        checks.faulty("@return");
        checks.faulty("{ @return ; }");
        checks.faulty("while ( false ) @return ;");
        checks.faulty("if ( true ) ; else { @return 1 ; }");
        checks.faulty("int f ( ) { return ; } @return ;");
        checks.faulty("int f ( ) { return ; } { @return 1 ; }");
        checks.passes("int f ( ) { return ; } int g ( ) { while ( true ) { if ( true ) return 1 ; else { return ; } } }");
    }

    private static void namesOfScopes(Checks checks) {
        checks.sentence("the NAME of a declaration or parameter that the same SCOPE has already");
        checks.faulty("{ int a ; byte @a ; }");
        checks.faulty("{ int a ; int @a");
        checks.faulty("{ int a ; int b ; int c ; int @b = 1 ; }");
        checks.faulty("{ int a ; { int b ; } int b ; int @b = 1 ; }");
        checks.faulty("int f ( int a , int @a ) { }");
        checks.faulty("int f ( int a , int b , var @a ) { }");
        checks.faulty("int f ( int a , int b , var @b ) { }");
        checks.faulty("while ( false ) { int a ; if ( true ) { int a ; } int @a ; }");
        // Outside of all scopes there is none that could have it.
        checks.passes("int a ; int a ; long a = 1 ; { int a ; }");
        checks.sentence("SCOPES: a block; a method (its parameters; its block is a scope within).");
        checks.passes("int a ; { int a ; { int a ; } { int a ; } }");
        checks.passes("{ int a ; } { int a ; }");
        checks.passes("int f ( int a ) { int a ; { int a ; } }");
        checks.faulty("int f ( int a ) { int a ; int @a ; }");
        checks.passes("int f ( int f ) { int g ; } int g ( int f ) { int g ; }");
    }

    private static final String EIGHT = "int a ; int b ; int c ; int d ; int e ; int f ; int g ; int h ; ";
    private static final String FIVE = "int a ; int b ; int c ; int d ; int e ; ";

    private static void nineLocals(Checks checks) {
        checks.sentence("the NAME of a local or parameter that would be the ninth in scope there.");
        checks.passes("{ " + EIGHT + "}");
        checks.faulty("{ " + EIGHT + "int @i ; }");
        checks.faulty("{ " + EIGHT + "var @i");
        checks.faulty("{ " + EIGHT + "; { } int @i = 1 ; }");
        checks.passes("int m ( int n , var o , byte p ) { " + FIVE + "}");
        checks.faulty("int m ( int n , var o , byte p ) { " + FIVE + "int @f ; }");
        checks.passes("int m ( int n ) { " + FIVE + "int f ; int g ; }");
        checks.faulty("int m ( int n ) { " + FIVE + "int f ; int g ; int @h ; }");
        checks.passes("int m ( ) { " + EIGHT + "}");
        checks.faulty("int m ( ) { " + EIGHT + "int @i ; }");
    }

    private static void scopesOfTheNine(Checks checks) {
        checks.sentence("In scope for the ninth: all locals and parameters declared before it in the scopes that are open there.");
        // One that is hidden by an inner one of its NAME counts too.
        checks.faulty("{ " + EIGHT + "{ int @a ; } }");
        checks.faulty("{ int a ; { int a ; { int a ; { int a ; { int a ; { int a ; { int a ; { int a ; { int @a ;");
        checks.faulty("int m ( int n , var o ) { " + FIVE + "{ int n ; int @a ; } }");
        checks.faulty("int m ( int a , int b , int c ) { " + FIVE + "{ { int @a ; } } }");
        // Scopes that are closed count nothing, nor do globals, nor what comes after.
        checks.passes("{ " + EIGHT + "} { " + EIGHT + "} int i ;");
        checks.passes("{ { " + EIGHT + "} int i ; { " + FIVE + "int f ; int g ; } }");
        checks.passes("int m ( int n , var o , byte p ) { } { " + EIGHT + "}");
        checks.passes("int i ; int j ; { " + EIGHT + "}");
        checks.passes("int m ( int n , var o , byte p ) { { " + FIVE + "} { " + FIVE + "} " + FIVE + "}");
        Script script = new Script();
        checks.run(script, "{ " + EIGHT + "@)", LooseShell.SYNTAX);
        checks.passes(script, "{ " + EIGHT + "}");
        checks.run(script, "int m ( int n ) { " + FIVE + "@)", LooseShell.SYNTAX);
        checks.passes(script, "int m ( int n ) { " + FIVE + "int f ; int g ; } n = 1 ;");
        checks.global(script, 'n' - 'a', LooseShell.INT, 1);
        checks.passes("{ int i ; { " + FIVE + "int f ; int g ; } int j ; int k ; int l ; int m ; int n ; int o ; int p ; }");
    }

    /** Every text that ends too early is faulty at its end. */
    private static void cutOff(Checks checks) {
        checks.sentence("If the text ends too early, the faulty place is the number of its tokens.");
        String whole = "int f ( int a , byte b ) { int c = a ; while ( a < 1 ) { a += f ( 1 , ( byte ) - 2 ) ; "
            + "if ( a == 1 ) break ; else continue ; } return a ; } print ( f ( 1 , ( byte ) 2 ) ) ;";
        List<String> tokens = Script.tokensOf(whole);
        int wholeItems = tokens.lastIndexOf("print");
        for (int length = 0; length < tokens.size(); length++) {
            String text = String.join(" ", tokens.subList(0, length));
            String full = "; ".repeat(140 - length) + text;
            if (length == 0 || length == wholeItems) {
                checks.passes(text);
                checks.passes(full);
            } else {
                checks.faulty(text + " @");
                checks.faulty(full + " @");
            }
        }
        checks.passes(whole);
        checks.faulty("; ".repeat(139) + "{ @");
        checks.faulty("int @");
        checks.faulty("if ( true ) ; else @");
    }
}
