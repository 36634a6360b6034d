/** Promise 15 and what the terms say of methods: which one is called, what it answers, and what is too much. */
public final class MethodTest {
    private static final int BOOLEAN = LooseShell.BOOLEAN, BYTE = LooseShell.BYTE;
    private static final int INT = LooseShell.INT, LONG = LooseShell.LONG;
    private static final int KIND = LooseShell.KIND, ZERO = LooseShell.ZERO, UNDEFINED = LooseShell.UNDEFINED;
    private static final int NO_METHOD = LooseShell.NO_METHOD, AMBIGUOUS = LooseShell.AMBIGUOUS, DEEP = LooseShell.DEEP;
    private static final int FULL = LooseShell.FULL, BUDGET = LooseShell.BUDGET;
    private static final String[] KINDS = {"boolean", "byte", "char", "int", "long", "var"};
    private static final String[] VALUES = {"true", "( byte ) 1", "( char ) 1", "1", "1L"};
    /** For each kind of an argument, the KINDs of a parameter that it fits. */
    private static final String[] FITS = {"100001", "010111", "001111", "000111", "000011"};

    public static void main(String[] args) {
        Checks checks = new Checks("MethodTest");
        standing(checks);
        fromNowOn(checks);
        eightMethods(checks);
        manyTokens(checks);
        tokensThatDoNotCount(checks);
        argumentsInOrder(checks);
        fitting(checks);
        nameAndNumber(checks);
        special(checks);
        specialAmongSeveral(checks);
        deepCalls(checks);
        depthThatIsLeft(checks);
        ticksOfCalls(checks);
        orderOfErrors(checks);
        parameters(checks);
        returnedValues(checks);
        returnedZeros(checks);
        placesInEarlierTexts(checks);
        checks.end();
    }

    private static void standing(Checks checks) {
        checks.sentence("The number of methods that stand.");
        Script script = new Script();
        checks.same("methods of a new shell", script.shell.methods(), 0);
        checks.passes(script, "int f ( ) { }");
        checks.same("methods", script.shell.methods(), 1);
        checks.passes(script, "int f ( ) { } long f ( ) { }");
        checks.same("methods with one replaced", script.shell.methods(), 1);
        checks.run(script, "int g ( ) { } 1 @/ 0 ; int h ( ) { }", ZERO);
        checks.same("methods up to an error", script.shell.methods(), 2);
        checks.run(script, "int h ( ) { } @)", LooseShell.SYNTAX);
        checks.same("methods after a faulty text", script.shell.methods(), 2);
        checks.passes(script, "");
        checks.same("methods after an empty text", script.shell.methods(), 2);
        checks.passes(script, "int f ( int a ) { } int f ( long a ) { } int f ( int a , int b ) { } int g ( int a ) { }");
        checks.same("methods", script.shell.methods(), 6);
        checks.passes(script, "int h ( ) { } int i ( ) { }");
        checks.same("methods", script.shell.methods(), 8);
        checks.run(script, "@int j ( ) { }", FULL);
        checks.same("methods with one refused", script.shell.methods(), 8);
        script.shell.reset();
        checks.same("methods after reset", script.shell.methods(), 0);
    }

    private static void fromNowOn(Checks checks) {
        checks.sentence("method: from now on it is the method of that NAME, number and KINDs of parameters, instead of an earlier one.");
        checks.run("@f ( ) ; int f ( ) { }", NO_METHOD);
        checks.gives("int g ( ) { return f ( ) ; } int f ( ) { return 4 ; } g ( ) ;", INT, 4);
        Script script = new Script();
        checks.gives(script, "int f ( int a ) { return 1 ; } a = f ( 0 ) ; int f ( int b ) { return 2 ; } a * 10 + f ( 0 ) ;", INT, 12);
        checks.gives(script, "long f ( int c ) { return 3 ; } f ( 0 ) ;", LONG, 3);
        checks.same("methods", script.shell.methods(), 1);
        checks.gives(script, "int f ( ) { return 4 ; } int f ( long a ) { return 5 ; } int g ( int a ) { return 6 ; }"
            + " int f ( int a , int b ) { return 7 ; } f ( 0 ) ;", LONG, 3);
        checks.same("methods", script.shell.methods(), 5);
        checks.gives(script, "( ( f ( ) * 10 + f ( 0L ) ) * 10 + g ( 0 ) ) * 10 + f ( 0 , 0 ) ;", INT, 4567);
        // The KINDs count in their order.
        checks.gives("int f ( int a , byte b ) { return 1 ; } int f ( byte a , int b ) { return 2 ; } f ( 1 , ( byte ) 1 ) ;", INT, 1);
    }

    private static void eightMethods(Checks checks) {
        checks.sentence("If there is no such earlier one and 8 stand: FULL at its KIND.");
        Script script = new Script();
        for (int i = 0; i < 8; i++) {
            checks.passes(script, "int " + (char) ('a' + i) + " ( ) { return " + i + " ; }");
            checks.same("methods", script.shell.methods(), i + 1);
        }
        checks.run(script, "; @int i ( ) { } ;", FULL);
        checks.run(script, "@int a ( int b ) { }", FULL);
        checks.run(script, "b = 1 ; @var p ( var a ) { }", FULL);
        checks.same("methods", script.shell.methods(), 8);
        checks.run(script, "@i ( ) ;", NO_METHOD);
        checks.gives(script, "int h ( ) { return 70 ; } long a ( ) { return 5 ; } a ( ) + h ( ) ;", LONG, 75);
        checks.gives(script, "b ( ) + c ( ) + d ( ) + e ( ) + f ( ) + g ( ) ;", INT, 21);
        checks.same("methods", script.shell.methods(), 8);
    }

    /** A method of f with so many tokens. */
    static String method(int tokens) {
        return "int f ( ) { " + "; ".repeat(tokens - 6) + "}";
    }

    private static void manyTokens(Checks checks) {
        checks.sentence("If the tokens (from KIND to the last '}') of all method items that were executed since the last reset,"
            + " replaced ones too but refused ones not, would with it be more than 240: FULL at its KIND.");
        Script script = new Script();
        checks.passes(script, method(130));
        checks.run(script, "; @" + method(111), FULL);
        checks.passes(script, "; ; ; " + method(104) + " ; ; ;");
        checks.run(script, "@" + method(7), FULL);
        checks.passes(script, method(6));
        checks.run(script, "@" + method(6), FULL);
        checks.same("methods", script.shell.methods(), 1);
        checks.gives(script, "f ( ) ;", INT, 0);
        script = new Script();
        checks.passes(script, method(140));
        checks.run(script, "@" + method(101), FULL);
        checks.passes(script, method(100));
        checks.run(script, "@int g ( ) { }", FULL);
        // All 240 are kept, and every one does what it stands for.
        script = new Script();
        checks.passes(script, "int f ( ) { " + "1 ; ".repeat(65) + "return 5 ; }");
        checks.passes(script, "int g ( ) { " + "a + 1 ; ".repeat(22) + "a += 1 ; return 6 ; }");
        checks.run(script, "@int h ( ) { }", FULL);
        checks.gives(script, "a = 2 ; ( f ( ) * 10 + g ( ) ) * 10 + a ;", INT, 563);
        // Two of one text count one after the other, and different ones together.
        script = new Script();
        checks.passes(script, "int g ( int a , int b ) { print ( a ) ; return 1 + 2 ; } " + method(100));
        checks.run(script, "@" + method(121), FULL);
        checks.passes(script, "int h ( ) { } " + method(113));
        checks.run(script, "@" + method(6), FULL);
    }

    private static void tokensThatDoNotCount(Checks checks) {
        // One that was refused because eight stand.
        Script script = new Script();
        for (int i = 0; i < 8; i++) {
            checks.passes(script, "int " + (char) ('a' + i) + " ( ) { }");
        }
        checks.run(script, "@int f ( int a ) { " + "; ".repeat(100) + "}", FULL);
        checks.passes(script, method(100));
        checks.passes(script, method(92));
        checks.run(script, "@" + method(6), FULL);
        // One that was not reached, or stands in a faulty text.
        script = new Script();
        checks.run(script, "1 @/ 0 ; " + method(110), ZERO);
        checks.run(script, method(110) + " @)", LooseShell.SYNTAX);
        checks.passes(script, method(130));
        checks.passes(script, method(110));
        // Those before the last reset.
        script = new Script();
        checks.passes(script, method(140));
        script.shell.reset();
        checks.passes(script, method(140));
        checks.passes(script, method(100));
        checks.run(script, "@" + method(6), FULL);
    }

    private static void argumentsInOrder(Checks checks) {
        checks.sentence("NAME(args): the arguments in order.");
        checks.gives("int f ( int a , int b , int c ) { return a * 100 + b * 10 + c ; } a = 1 ; f ( a , a = 5 , a + 1 ) ;", INT, 156);
        checks.gives("int f ( int a , int b ) { return a - b ; } a = 1 ; f ( a = 5 , a ) ;", INT, 0);
        checks.run("f ( @a , 1 / 0 ) ;", UNDEFINED);
        checks.run("f ( 1 , 2 @/ 0 , b ) ;", ZERO);
        // All of them before anything is asked about the method.
        Script script = new Script();
        checks.run(script, "@f ( a = 1 , b = 2 , c = 3 ) ;", NO_METHOD);
        checks.global(script, 0, INT, 1);
        checks.global(script, 2, INT, 3);
        checks.gives("int f ( int a ) { return a + 1 ; } f ( f ( f ( 1 ) ) ) ;", INT, 4);
    }

    /** Every kind of argument against every KIND of parameter, in each place; constants are not narrowed for a call. */
    private static void fitting(Checks checks) {
        checks.sentence("Then the methods of NAME with so many parameters that fit: every argument's kind is the parameter's,"
            + " or the parameter is var, or BYTE to int or long, CHAR to int or long, INT to long. None: NO_METHOD at NAME.");
        for (int from = 0; from < 5; from++) {
            for (int to = 0; to < 6; to++) {
                String first = "var f ( " + KINDS[to] + " a ) { return a ; } ";
                String third = "var g ( var b , int c , " + KINDS[to] + " a ) { return a ; } ";
                String one = "f ( " + VALUES[from] + " ) ;";
                String three = "g ( 0 , 0 , " + VALUES[from] + " ) ;";
                if (FITS[from].charAt(to) == '1') {
                    checks.gives(first + one, to == 5 ? from : to, 1);
                    checks.gives(third + three, to == 5 ? from : to, 1);
                } else {
                    checks.run(first + "@" + one, NO_METHOD);
                    checks.run(third + "@" + three, NO_METHOD);
                }
            }
        }
    }

    private static void nameAndNumber(Checks checks) {
        checks.run("@f ( ) ;", NO_METHOD);
        checks.run("f = 1 ; @f ( ) ;", NO_METHOD);
        checks.run("int f ( int a ) { } @f ( ) ;", NO_METHOD);
        checks.run("int f ( ) { } @f ( 1 ) ;", NO_METHOD);
        checks.run("int f ( int a ) { } @f ( 1 , 2 ) ;", NO_METHOD);
        checks.run("int f ( int a , int b , int c ) { } @f ( 1 , 2 ) ;", NO_METHOD);
        checks.run("int f ( int a ) { } @g ( 1 ) ;", NO_METHOD);
        checks.run("int p ( ) { } @o ( ) ;", NO_METHOD);
        checks.run("int f ( int a , int b ) { } @f ( 1 , true ) ;", NO_METHOD);
        checks.run("int f ( int a , int b ) { } 1 + @f ( true , 1 ) ;", NO_METHOD);
        String[] given = {"", "boolean a ", "boolean a , boolean b ", "boolean a , boolean b , boolean c "};
        String[] called = {"", "false ", "false , false ", "false , false , false "};
        for (int i = 0; i < 64; i++) {
            for (int k = 0; k < 64; k++) {
                String text = "int " + (char) ('a' + i / 4) + " ( " + given[i % 4] + ") { } "
                    + (i == k ? "" : "@") + (char) ('a' + k / 4) + " ( " + called[k % 4] + ") ;";
                checks.run(text, i == k ? LooseShell.OK : NO_METHOD);
            }
        }
    }

    private static void special(Checks checks) {
        checks.sentence("One of them must be the most special: each of its parameters fits (in the same sense, KIND to KIND;"
            + " var fits only var) that of every other one; else AMBIGUOUS at NAME.");
        Script script = new Script();
        checks.passes(script, "int f ( var a ) { return 5 ; } int f ( long a ) { return 4 ; } int f ( int a ) { return 3 ; }");
        checks.gives(script, "f ( 1 ) ;", INT, 3);
        checks.gives(script, "f ( ( byte ) 1 ) ;", INT, 3);
        checks.gives(script, "f ( ( char ) 1 ) ;", INT, 3);
        checks.gives(script, "f ( 1L ) ;", INT, 4);
        checks.gives(script, "f ( true ) ;", INT, 5);
        checks.passes(script, "int f ( byte a ) { return 1 ; } int f ( char a ) { return 2 ; } int f ( boolean a ) { return 6 ; }");
        checks.gives(script, "f ( ( byte ) 1 ) * 100 + f ( ( char ) 1 ) * 10 + f ( true ) ;", INT, 126);
        // In whatever order they were given.
        checks.gives("int f ( int a ) { return 3 ; } int f ( var a ) { return 5 ; } f ( 1 ) ;", INT, 3);
        checks.gives("int f ( var a ) { return 5 ; } int f ( int a ) { return 3 ; } f ( 1 ) ;", INT, 3);
        checks.gives("int f ( int a ) { return 3 ; } int f ( long a ) { return 4 ; } f ( 1 ) ;", INT, 3);
        checks.gives("int f ( long a ) { return 4 ; } int f ( int a ) { return 3 ; } f ( 1 ) ;", INT, 3);
        // var fits var, so the other parameter decides.
        checks.gives("int f ( var a , long b ) { return 4 ; } int f ( var a , int b ) { return 3 ; } f ( true , 1 ) ;", INT, 3);
        checks.run("int f ( var a , int b ) { } int f ( int a , long b ) { } @f ( 1 , 1 ) ;", AMBIGUOUS);
        checks.run("int f ( int a , long b ) { } int f ( long a , int b ) { } @f ( ( byte ) 1 , ( char ) 1 ) ;", AMBIGUOUS);
        checks.run("int f ( int a , int b , long c ) { } int f ( int a , int b , var c ) { } int f ( int a , var b , int c ) { }"
            + " 1 + @f ( 1 , 1 , 1 ) ;", AMBIGUOUS);
        // Those that do not fit do not hinder.
        checks.gives("int f ( int a , long b ) { return 1 ; } int f ( long a , int b ) { return 2 ; } f ( 1 , 1L ) ;", INT, 1);
    }

    private static void specialAmongSeveral(Checks checks) {
        Script script = new Script();
        checks.passes(script, "int f ( var a , int b ) { return 1 ; } int f ( int a , var b ) { return 2 ; }");
        checks.run(script, "@f ( 1 , 2 ) ;", AMBIGUOUS);
        checks.gives(script, "f ( true , 2 ) ;", INT, 1);
        checks.gives(script, "f ( 2 , true ) ;", INT, 2);
        checks.run(script, "@f ( true , true ) ;", NO_METHOD);
        checks.passes(script, "int f ( int a , int b ) { return 3 ; }");
        checks.gives(script, "f ( 1 , 2 ) ;", INT, 3);
        checks.gives(script, "f ( 1 , 1L ) ;", INT, 2);
        // One is more special than a second, but not than a third: there is none.
        String[] three = {"int f ( int a , long b ) { return 1 ; } ", "int f ( long a , long b ) { return 2 ; } ",
            "int f ( long a , int b ) { return 3 ; } "};
        for (int i = 0; i < 3; i++) {
            script = new Script();
            checks.passes(script, three[i] + three[(i + 1) % 3] + three[(i + 2) % 3]);
            checks.run(script, "@f ( 1 , 1 ) ;", AMBIGUOUS);
            checks.gives(script, "f ( 1 , 1L ) * 100 + f ( 1L , 1L ) * 10 + f ( 1L , 1 ) ;", INT, 123);
        }
    }

    private static void deepCalls(Checks checks) {
        checks.sentence("If 8 calls are active: DEEP at NAME.");
        String down = "int f ( int a ) { if ( a == 1 ) return 1 ; return 1 + %f ( a - 1 ) ; } ";
        checks.gives(down.replace("%", "") + "f ( 8 ) ;", INT, 8);
        checks.run(down.replace("%", "@") + "f ( 9 ) ;", DEEP);
        checks.run("int f ( ) { return @f ( ) ; } f ( ) ;", DEEP);
        checks.run("int f ( ) { return g ( ) ; } int g ( ) { return @f ( ) ; } f ( ) ;", DEEP);
        checks.run("int f ( ) { return @g ( ) ; } int g ( ) { return f ( ) ; } g ( ) ;", DEEP);
        waitingCallers(checks);
        checks.gives("int f ( int a ) { if ( a == 0 ) return 0 ; return 1 + ( 1 + ( 1 + ( 1 + f ( a - 1 ) ) ) ) ; } f ( 7 ) ;", INT, 28);
    }

    /** With as many locals and operands as there can be, in all of the callers and in the last of the calls. */
    private static void waitingCallers(Checks checks) {
        Script script = new Script();
        checks.gives(script, "int f ( int a ) { int b = a ; int c = b + 1 ; int d = c + 1 ; int e = d + 1 ; int g = e + 1 ; int h = g + 1 ;"
            + " int i = h + 1 ; if ( a > 1 ) a += f ( a - 1 ) ; return a + b + c + d + e + g + h + i ; } f ( 8 ) ;", INT, 456);
        checks.same("the answers", script.answers(), "outputs 0:, errorAt -1, result 3/456, globals:, methods 1");
        String part = "1 | 2 ^ 3 & 4 << 5 + 6 * ";
        script = new Script();
        checks.passes(script, "int f ( int a ) { if ( a == 0 ) return 9 ; return " + part + "( " + part + "f ( a - 1 ) ) ; }");
        int due = 9;
        for (int i = 0; i < 7; i++) {
            due = 1 | 2 ^ 3 & 4 << 5 + 6 * (1 | 2 ^ 3 & 4 << 5 + 6 * due);
        }
        checks.gives(script, "f ( 7 ) ;", INT, due);
    }

    private static void depthThatIsLeft(Checks checks) {
        String down = "int f ( int a ) { if ( a == 1 ) return 1 ; return 1 + f ( a - 1 ) ; } ";
        // A call that has ended is not active, nor is one whose arguments are still evaluated.
        checks.gives(down + "f ( 8 ) + f ( 8 ) ;", INT, 16);
        checks.gives("int f ( ) { } a = 0 ; while ( a < 20 ) { f ( ) ; a += 1 ; } a ;", INT, 20);
        checks.gives("int f ( int a ) { return a + 1 ; } f ( f ( f ( f ( f ( f ( f ( f ( f ( 0 ) ) ) ) ) ) ) ) ) ;", INT, 9);
        checks.gives("int f ( ) { while ( true ) { { return 1 ; } } } a = 0 ; while ( a < 20 ) a += f ( ) ; a ;", INT, 20);
        // The calls that an error has ended are not active in the next run.
        Script script = new Script();
        checks.runInEarlier(script, down + "f ( 9 ) ;", DEEP, "int f ( int a ) { if ( a == 1 ) return 1 ; return 1 + @f");
        checks.gives(script, "f ( 8 ) ;", INT, 8);
    }

    private static void ticksOfCalls(Checks checks) {
        checks.sentence("Then the call costs a TICK (none left: BUDGET at NAME).");
        Script script = new Script(20);
        checks.passes(script, "int f ( ) { } int g ( int a ) { return a ; }");
        checks.passes(script, "; ".repeat(18) + "f ( ) ;");
        checks.run(script, "; ".repeat(19) + "@f ( ) ;", BUDGET);
        checks.passes(script, "; ".repeat(17) + "f ( ) + f ( ) ;");
        checks.run(script, "; ".repeat(18) + "f ( ) + @f ( ) ;", BUDGET);
        // The call in an argument comes before the call that it is for.
        checks.run(script, "; ".repeat(18) + "@g ( 1 + f ( ) ) ;", BUDGET);
        checks.run(script, "; ".repeat(19) + "g ( 1 + @f ( ) ) ;", BUDGET);
    }

    private static void orderOfErrors(Checks checks) {
        Script script = new Script(20);
        checks.passes(script, "int f ( int a ) { } int g ( var a , int b ) { } int g ( int a , var b ) { } int h ( ) { return h ( ) ; }");
        // Without ticks: the arguments, then which method, then the depth, and only then the tick.
        String none = "; ".repeat(19);
        checks.run(script, none + "f ( 1 @/ 0 ) ;", ZERO);
        checks.run(script, none + "@f ( true ) ;", NO_METHOD);
        checks.run(script, none + "@g ( 1 , 1 ) ;", AMBIGUOUS);
        checks.run(script, none + "@f ( 1 ) ;", BUDGET);
        String earlier = "int f ( int a ) { } int g ( var a , int b ) { } int g ( int a , var b ) { } int h ( ) { ";
        script = new Script(20);
        checks.passes(script, earlier + "return h ( ) ; }");
        checks.runInEarlier(script, "; ; ; h ( ) ;", DEEP, earlier + "return @h ( ) ; }");
        checks.runInEarlier(script, "; ; ; ; h ( ) ;", BUDGET, earlier + "@return h ( ) ; }");
        // With eight calls active.
        String down = "int f ( int a ) { if ( a == 1 ) % ; f ( a - 1 ) ; } ";
        String pair = "int g ( var a , int b ) { } int g ( int a , var b ) { } ";
        checks.run(down.replace("%", "@f ( true )") + "f ( 8 ) ;", NO_METHOD);
        checks.run(pair + down.replace("%", "@g ( 1 , 1 )") + "f ( 8 ) ;", AMBIGUOUS);
        checks.run(down.replace("%", "f ( 1 @/ 0 )") + "f ( 8 ) ;", ZERO);
        checks.run(down.replace("%", "@f ( 1 )") + "f ( 8 ) ;", DEEP);
    }

    private static void parameters(Checks checks) {
        checks.sentence("The parameters get the values (in the parameter's kind), the block is run.");
        Script script = new Script();
        checks.gives(script, "int f ( int a , long b , var c ) { print ( a ) ; print ( b ) ; print ( c ) ; return 1 ; }"
            + " f ( ( byte ) - 1 , ( char ) - 1 , ( byte ) 3 ) ;", INT, 1);
        checks.output(script, 0, INT, -1);
        checks.output(script, 1, LONG, 65535);
        checks.output(script, 2, BYTE, 3);
        checks.gives("int f ( var a ) { a = true ; return 1 ; } f ( 5 ) ;", INT, 1);
        checks.run("int f ( long a ) { a @= true ; } f ( 5 ) ;", KIND);
        checks.gives("long f ( long a ) { a = 6 ; return a ; } f ( 5 ) ;", LONG, 6);
        checks.gives("int f ( int f ) { return f + 1 ; } f = 3 ; f ( f ) ;", INT, 4);
        checks.gives("a = 7 ; int f ( int a ) { a += 1 ; } f ( a ) ; a ;", INT, 7);
    }

    private static void returnedValues(Checks checks) {
        checks.sentence("'return expr': the value is CONVERTED to the method's KIND (error KIND at 'return');");
        checks.gives("int f ( ) { return 5 ; } f ( ) ;", INT, 5);
        checks.gives("long f ( ) { return 5 ; } f ( ) ;", LONG, 5);
        checks.gives("byte f ( ) { return 5 ; } f ( ) ;", BYTE, 5);
        checks.gives("var f ( ) { return true ; } f ( ) ;", BOOLEAN, 1);
        checks.gives("int f ( ) { while ( true ) { if ( true ) return 7 ; } } f ( ) ;", INT, 7);
        checks.gives("int f ( ) { { return 7 ; } return 8 ; } 1 + f ( ) * 2 ;", INT, 15);
        checks.run("int f ( ) { @return true ; } f ( ) ;", KIND);
        checks.run("boolean f ( ) { @return 1 ; } f ( ) ;", KIND);
        checks.run("int f ( ) { @return 1L ; } f ( ) ;", KIND);
        checks.run("byte f ( ) { if ( true ) @return 128 ; } f ( ) ;", KIND);
        checks.run("byte f ( int a ) { @return a ; } f ( 1 ) ;", KIND);
        checks.run("int f ( ) { return 1 @/ 0 ; } f ( ) ;", ZERO);
        checks.passes("int f ( ) { return true ; }");
    }

    private static void returnedZeros(Checks checks) {
        checks.sentence("'return' alone, or the end of the block: the zero of the method's KIND.");
        for (int kind = 0; kind < 6; kind++) {
            int due = kind == 5 ? INT : kind;
            checks.gives(KINDS[kind] + " f ( ) { } f ( ) ;", due, 0);
            checks.gives(KINDS[kind] + " f ( ) { return ; } f ( ) ;", due, 0);
            checks.gives(KINDS[kind] + " f ( var a ) { if ( false ) return a ; 5L ; } f ( 7 ) ;", due, 0);
            checks.gives(KINDS[kind] + " f ( ) { while ( true ) { if ( true ) { return ; } } } f ( ) ;", due, 0);
        }
        checks.gives("a = 5 ; int f ( ) { } f ( ) ; a ;", INT, 5);
    }

    private static void placesInEarlierTexts(Checks checks) {
        checks.sentence("The place of an error in a method is the place in the text in which that method was given.");
        Script script = new Script();
        checks.passes(script, "; ; int f ( int a ) { print ( 10 / a ) ; return b ; }");
        checks.runInEarlier(script, "; f ( 0 ) ; ; ; ; ; ; ;", ZERO, "; ; int f ( int a ) { print ( 10 @/ a )");
        checks.runInEarlier(script, "f ( 1 ) ; ; ; ; ; ; ; ;", UNDEFINED, "; ; int f ( int a ) { print ( 10 / a ) ; return @b ; }");
        checks.passes(script, "int g ( ) { while ( true ) { if ( b > 2 ) break ; b += 1 ; } return f ( b ) ; }");
        checks.gives(script, "b = 0 ; g ( ) ; b ;", INT, 3);
        checks.output(script, 0, INT, 3);
        // What is read or run in between leaves the methods as they are.
        checks.run(script, "; ; a = @", LooseShell.SYNTAX);
        checks.gives(script, "b = 5 ; g ( ) ;", INT, 5);
        checks.runInEarlier(script, "boolean b = true ; g ( ) ;", KIND, "int g ( ) { while ( true ) { if ( b @> 2 ) break ;");
        // At every place up to the last of a text.
        script = new Script();
        checks.passes(script, "; ".repeat(130) + "int f ( ) { a ; }");
        checks.runInEarlier(script, "f ( ) ;", UNDEFINED, "; ".repeat(130) + "int f ( ) { @a ; }");
    }
}
