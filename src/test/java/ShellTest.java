/** Promises 1 and 5 to 12: a new object, a run and its answers, and reset. */
public final class ShellTest {
    private static final int BOOLEAN = LooseShell.BOOLEAN, BYTE = LooseShell.BYTE, CHAR = LooseShell.CHAR;
    private static final int INT = LooseShell.INT, LONG = LooseShell.LONG;
    private static final int OK = LooseShell.OK, SYNTAX = LooseShell.SYNTAX, UNDEFINED = LooseShell.UNDEFINED;
    private static final int KIND = LooseShell.KIND, ZERO = LooseShell.ZERO, FULL = LooseShell.FULL, BUDGET = LooseShell.BUDGET;
    private static final int[] NO_INDEX = {-1, 32, 33, Integer.MIN_VALUE, Integer.MAX_VALUE};

    /** Run one after the other on one shell with 400 ticks, each ends with the code of its number. */
    private static final String[] OF_EACH_CODE = {
        "int f ( var a , int b ) { } int f ( int a , var b ) { } int g ( ) { @g ( ) ; }",
        "1 @)", "@a ;", "true @+ 1 ;", "1 @/ 0 ;", "@f ( true , true ) ;", "@f ( 1 , 1 ) ;", "g ( ) ;",
        "while ( true ) @print ( 1 ) ;", "while ( true ) @;",
    };

    public static void main(String[] args) {
        Checks checks = new Checks("ShellTest");
        fresh(checks);
        clampedTicks(checks);
        runEmptiesTheAnswers(checks);
        nothingIsExecutedIfFaulty(checks);
        codes(checks);
        runEmptiesTheText(checks);
        emptyText(checks);
        whatStays(checks);
        reset(checks);
        resetOfLimits(checks);
        outputs(checks);
        outputKinds(checks);
        outputValues(checks);
        errorPlaces(checks);
        resultKinds(checks);
        resultValues(checks);
        checks.end();
    }

    private static void fresh(Checks checks) {
        checks.sentence("A fresh shell: no text, no globals, methods, outputs.");
        int[] ticks = {400, 20, 0, Integer.MIN_VALUE, Integer.MAX_VALUE};
        for (int given : ticks) {
            Script script = new Script(given);
            checks.same("the answers", script.answers(), Script.FRESH);
            checks.run(script, "@)", SYNTAX);
            checks.run(script, "@a ;", UNDEFINED);
            checks.run(script, "@f ( ) ;", LooseShell.NO_METHOD);
        }
    }

    /** Counts how many rounds a run pays for: the while's own tick is one of the ticks. */
    private static void ticksAre(Checks checks, Script script, int due) {
        checks.passes(script, "a = 0 ;");
        checks.run(script, "while ( true ) @a += 1 ;", BUDGET);
        checks.same("ticks", script.shell.globalValue(0) + 1, due);
    }

    private static void clampedTicks(Checks checks) {
        checks.sentence("ticks: the ticks of one run, clamped to 20..400.");
        int[] given = {Integer.MIN_VALUE, -400, -1, 0, 1, 19, 20, 21, 399, 400, 401, 65556, Integer.MAX_VALUE};
        int[] due = {20, 20, 20, 20, 20, 20, 20, 21, 399, 400, 400, 400, 400};
        for (int i = 0; i < given.length; i++) {
            Script script = new Script(given[i]);
            ticksAre(checks, script, due[i]);
            // What one run has used up is there again for the next.
            ticksAre(checks, script, due[i]);
        }
    }

    private static void runEmptiesTheAnswers(Checks checks) {
        checks.sentence("First empties the outputs and the result.");
        String[] later = {"", "a = @;", "a = 1 @/ 0 ;", "print @", ";", "while ( true ) @;"};
        int[] codes = {OK, SYNTAX, ZERO, SYNTAX, OK, BUDGET};
        for (int i = 0; i < later.length; i++) {
            Script script = new Script();
            checks.gives(script, "print ( 5 ) ; print ( true ) ; 6 ;", INT, 6);
            checks.same("outputs", script.shell.outputs(), 2);
            checks.run(script, later[i], codes[i]);
            checks.same("outputs", script.shell.outputs(), 0);
            checks.output(script, 0, -1, 0);
            checks.output(script, 1, -1, 0);
            checks.result(script, later[i], -1, 0);
        }
        // The outputs of an earlier run take no room.
        Script script = new Script();
        for (int i = 0; i < 2; i++) {
            checks.passes(script, "a = 0 ; while ( a < 32 ) print ( a += 1 ) ;");
            checks.same("outputs", script.shell.outputs(), 32);
        }
        checks.passes(script, "print ( 9L ) ;");
        checks.same("outputs", script.shell.outputs(), 1);
        checks.output(script, 0, LONG, 9);
        checks.output(script, 1, -1, 0);
    }

    private static void nothingIsExecutedIfFaulty(Checks checks) {
        checks.sentence("Then checks the whole text (faulty token: SYNTAX; nothing is executed).");
        Script script = new Script();
        checks.passes(script, "int b = 3 ;");
        checks.run(script, "a = 1 ; print ( 1 ) ; 5 ; b = 4 ; boolean b ; int f ( ) { } @)", SYNTAX);
        checks.same("the answers", script.answers(), "outputs 0:, errorAt 24, result -1/0, globals: b 11/3, methods 0");
        // The fault comes last, but is found before what would end the run.
        checks.run("1 / 0 ; @}", SYNTAX);
        checks.run("a ; @else", SYNTAX);
        checks.run("while ( true ) ; @,", SYNTAX);
        checks.run("; ".repeat(30) + "1 @", SYNTAX);
        // A method that is not executed takes none of the 240 tokens.
        script = new Script();
        checks.run(script, MethodTest.method(139) + "@)", SYNTAX);
        checks.passes(script, MethodTest.method(140));
        checks.passes(script, MethodTest.method(100));
    }

    private static void codes(Checks checks) {
        checks.sentence("Answers OK or the error's code.");
        Script script = new Script();
        for (int code = 0; code < OF_EACH_CODE.length; code++) {
            checks.same("the code of run " + code, script.run(OF_EACH_CODE[code].replace("@", "")), code);
        }
    }

    private static void runEmptiesTheText(Checks checks) {
        checks.sentence("At the end the text is emptied.");
        Script script = new Script();
        for (int code = 0; code < OF_EACH_CODE.length; code++) {
            script.run(OF_EACH_CODE[code].replace("@", ""));
            checks.run(script, "@)", SYNTAX);
            checks.passes(script, "");
        }
        String[] ends = {";", "}"};
        for (String end : ends) {
            script = new Script();
            checks.put(script, "; ".repeat(139) + end);
            script.shell.run();
            checks.put(script, "; ".repeat(139));
            checks.same("the 140th token of the next text", script.putToken(";"), true);
            checks.same("the 141st", script.putToken(";"), false);
            checks.passes(script, "");
        }
    }

    private static void emptyText(Checks checks) {
        checks.sentence("An empty text is OK.");
        Script script = new Script();
        checks.passes(script, "");
        checks.same("the answers", script.answers(), Script.FRESH);
        checks.run(script, "int a = 4 ; int f ( ) { } print ( 5 ) ; 6 ; 1 @/ 0 ;", ZERO);
        for (int i = 0; i < 2; i++) {
            checks.passes(script, "");
            checks.same("the answers", script.answers(), "outputs 0:, errorAt -1, result -1/0, globals: a 11/4, methods 1");
        }
    }

    private static void whatStays(Checks checks) {
        checks.sentence("global variables and methods that a run has made stay for later runs.");
        Script script = new Script();
        checks.passes(script, "int a = 4 ; b = 5L ; int f ( int c ) { return c + a ; }");
        String[] between = {"", ";", "1 @/ 0 ;", "c = @;", "{ int a = 9 ; }"};
        int[] codes = {OK, OK, ZERO, SYNTAX, OK};
        for (int i = 0; i < between.length; i++) {
            checks.run(script, between[i], codes[i]);
            checks.global(script, 0, INT + 8, 4);
            checks.global(script, 1, LONG, 5);
            checks.same("methods", script.shell.methods(), 1);
            checks.gives(script, "f ( 3 ) + b ;", LONG, 12);
        }
    }

    private static void reset(Checks checks) {
        checks.sentence("Everything as in a fresh shell with the same constructor argument.");
        Script script = new Script();
        script.shell.reset();
        checks.same("the answers", script.answers(), Script.FRESH);
        checks.run(script, "int a = 1 ; b = 7L ; int f ( ) { } print ( 2 ) ; 5 ; 1 @/ 0 ;", ZERO);
        checks.put(script, "int b =");
        for (int i = 0; i < 2; i++) {
            script.shell.reset();
            checks.same("the answers", script.answers(), Script.FRESH);
        }
        checks.output(script, 0, -1, 0);
        checks.run(script, "@)", SYNTAX);
        checks.run(script, "@a ;", UNDEFINED);
        checks.run(script, "@b += 1 ;", UNDEFINED);
        checks.run(script, "@f ( ) ;", LooseShell.NO_METHOD);
        // Of the KIND that was declared nothing is left.
        checks.gives(script, "a = true ;", BOOLEAN, 1);
        checks.global(script, 0, BOOLEAN, 1);
    }

    private static void resetOfLimits(Checks checks) {
        int[] given = {-7, 20, 30, 400, 1000};
        int[] due = {20, 20, 30, 400, 400};
        for (int i = 0; i < given.length; i++) {
            Script script = new Script(given[i]);
            script.run("while ( true ) ;");
            script.shell.reset();
            ticksAre(checks, script, due[i]);
        }
        Script script = new Script();
        for (int i = 0; i < 2; i++) {
            checks.put(script, "; ".repeat(140));
            script.shell.reset();
        }
        checks.same("a token after reset", script.putToken(";"), true);
        checks.passes(script, "");
        script = new Script();
        for (int round = 0; round < 2; round++) {
            for (int i = 0; i < 8; i++) {
                checks.passes(script, "int " + (char) ('a' + i + round) + " ( ) { }");
            }
            checks.same("methods", script.shell.methods(), 8);
            checks.run(script, "@int p ( ) { }", FULL);
            script.shell.reset();
        }
        script = new Script();
        checks.passes(script, MethodTest.method(140));
        script.shell.reset();
        checks.passes(script, MethodTest.method(140));
        checks.run(script, "@" + MethodTest.method(101), FULL);
    }

    private static void outputs(Checks checks) {
        checks.sentence("The number of outputs of the latest run (0 if none).");
        Script script = new Script();
        checks.same("outputs of a new shell", script.shell.outputs(), 0);
        int[] counts = {1, 0, 31, 32, 2};
        for (int count : counts) {
            checks.passes(script, "a = 0 ; while ( a < " + count + " ) print ( a += 1 ) ;");
            checks.same("outputs", script.shell.outputs(), count);
        }
        checks.put(script, "print ( 1 ) ;");
        checks.same("outputs before the next run", script.shell.outputs(), 2);
        checks.passes(script, "");
        checks.same("outputs after it", script.shell.outputs(), 1);
        checks.run(script, "print ( 1 ) ; print ( 2 ) ; print ( 1 @/ 0 ) ; print ( 3 ) ;", ZERO);
        checks.same("outputs before an error", script.shell.outputs(), 2);
        checks.run(script, "print ( 1 ) ; @)", SYNTAX);
        checks.same("outputs of a faulty text", script.shell.outputs(), 0);
        checks.run(script, "while ( true ) @print ( 1 ) ;", FULL);
        checks.same("outputs when full", script.shell.outputs(), 32);
    }

    private static final String SIX = "print ( true ) ; print ( false ) ; print ( ( byte ) 200 ) ; print ( ( char ) 65 ) ;"
        + " print ( 7 ) ; print ( 1L << 62 ) ;";

    private static void outputKinds(Checks checks) {
        checks.sentence("The kind of output i (0 is the first) of the latest run; -1 if there is none.");
        Script script = new Script();
        checks.same("outputKind(0) of a new shell", script.shell.outputKind(0), -1);
        checks.passes(script, SIX);
        int[] due = {BOOLEAN, BOOLEAN, BYTE, CHAR, INT, LONG, -1, -1};
        for (int i = 0; i < due.length; i++) {
            checks.same("outputKind(" + i + ")", script.shell.outputKind(i), due[i]);
        }
        for (int i : NO_INDEX) {
            checks.same("outputKind(" + i + ")", script.shell.outputKind(i), -1);
        }
        checks.passes(script, "a = 0 ; while ( a < 32 ) print ( a += 1 ) ;");
        checks.same("outputKind(31)", script.shell.outputKind(31), INT);
        for (int i : NO_INDEX) {
            checks.same("outputKind(" + i + ")", script.shell.outputKind(i), -1);
        }
    }

    private static void outputValues(Checks checks) {
        checks.sentence("The value of output i as a long (BOOLEAN: 0 or 1); 0 if there is none.");
        Script script = new Script();
        checks.same("outputValue(0) of a new shell", script.shell.outputValue(0), 0);
        checks.passes(script, SIX);
        long[] due = {1, 0, -56, 65, 7, 1L << 62, 0, 0};
        for (int i = 0; i < due.length; i++) {
            checks.same("outputValue(" + i + ")", script.shell.outputValue(i), due[i]);
        }
        checks.passes(script, "a = 0 ; while ( a < 32 ) print ( a += 1 ) ;");
        checks.same("outputValue(31)", script.shell.outputValue(31), 32);
        for (int i : NO_INDEX) {
            checks.same("outputValue(" + i + ")", script.shell.outputValue(i), 0);
        }
        checks.passes(script, "print ( 1 ) ;");
        checks.same("outputValue(1) after a run with one output", script.shell.outputValue(1), 0);
    }

    private static void errorPlaces(Checks checks) {
        checks.sentence("The place of the error of the latest run; -1 if that was OK or there was none.");
        Script script = new Script();
        checks.same("errorAt of a new shell", script.shell.errorAt(), -1);
        checks.run(script, "1 ; @a ;", UNDEFINED);
        checks.put(script, "a = 3 ; a");
        checks.same("errorAt while a text is given", script.shell.errorAt(), 2);
        checks.passes(script, ";");
        checks.run(script, "a @", SYNTAX);
        checks.passes(script, "");
        checks.run(script, "1 @( ) ;", SYNTAX);
        script.shell.reset();
        checks.same("errorAt after reset", script.shell.errorAt(), -1);
        script = new Script();
        for (int code = 0; code < OF_EACH_CODE.length; code++) {
            if (code == LooseShell.DEEP) {
                checks.runInEarlier(script, OF_EACH_CODE[code], code, OF_EACH_CODE[0]);
            } else {
                checks.run(script, code == 0 ? OF_EACH_CODE[0].replace("@", "") : OF_EACH_CODE[code], code);
            }
        }
    }

    private static void resultKinds(Checks checks) {
        checks.sentence("The kind of the value that the latest run's last completed 'expr ;' among the items"
            + " (not within another statement or method) had; -1 if none.");
        Script script = new Script();
        checks.same("resultKind of a new shell", script.shell.resultKind(), -1);
        String[] texts = {
            "1 ; true ;", "1 ; ( byte ) 3 ;", "1 ; ( char ) 3 ;", "true ; 3 ;", "1 ; a = 3L ;",
            "1L ; { 2 ; }", "1L ; if ( true ) 2 ;", "1L ; if ( false ) ; else 2 ;", "1L ; while ( true ) { 2 ; break ; }",
            "1L ; b = true ; while ( b ) b = 3 > 4 ;", "byte f ( ) { 7 ; return 8 ; } f ( ) ;",
            "1L ; f ( ) ; { f ( ) ; }", "1L ; int c = f ( ) ; print ( f ( ) ) ; ;", "1L ; int g ( ) { 4 ; }",
            "{ 1 ; }", "int a = 4 ;", ";", "print ( 1 ) ;", "",
        };
        int[] due = {
            BOOLEAN, BYTE, CHAR, INT, LONG,
            LONG, LONG, LONG, LONG,
            BOOLEAN, BYTE,
            BYTE, LONG, LONG,
            -1, -1, -1, -1, -1,
        };
        for (int i = 0; i < texts.length; i++) {
            checks.passes(script, texts[i]);
            checks.same("resultKind of: " + texts[i], script.shell.resultKind(), due[i]);
        }
        // What is not completed leaves the one before, or none.
        checks.run(script, "true ; 2L ; 1 @/ 0 ; true ;", ZERO);
        checks.same("resultKind before an error", script.shell.resultKind(), LONG);
        checks.run(script, "1 @/ 0 ;", ZERO);
        checks.same("resultKind without a completed one", script.shell.resultKind(), -1);
        checks.run(script, "1 ; @)", SYNTAX);
        checks.same("resultKind of a faulty text", script.shell.resultKind(), -1);
    }

    private static void resultValues(Checks checks) {
        checks.sentence("That value as a long; 0 if none.");
        Script script = new Script();
        checks.same("resultValue of a new shell", script.shell.resultValue(), 0);
        checks.gives(script, "1 ; 2 ; 3 ;", INT, 3);
        checks.gives(script, "true ;", BOOLEAN, 1);
        checks.gives(script, "false ;", BOOLEAN, 0);
        checks.gives(script, "( byte ) 255 ;", BYTE, -1);
        checks.gives(script, "( char ) - 1 ;", CHAR, 65535);
        checks.gives(script, "~ ( 1L << 63 ) ;", LONG, Long.MAX_VALUE);
        checks.gives(script, "6 ; { 2 ; } if ( true ) 3 ; while ( true ) { 4 ; break ; }", INT, 6);
        checks.gives(script, "{ 1 ; }", -1, 0);
        checks.run(script, "5 ; 2 ; @d ;", UNDEFINED);
        checks.result(script, "the text with an error", INT, 2);
        checks.run(script, "true @+ 1 ;", KIND);
        checks.result(script, "the text without a completed one", -1, 0);
        script.shell.reset();
        checks.result(script, "reset", -1, 0);
    }
}
