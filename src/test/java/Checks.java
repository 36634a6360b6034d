/** Counts what was not as due, and says it. */
final class Checks {
    private final String test;
    private int wrong;

    Checks(String test) {
        this.test = test;
    }

    void same(String what, long got, long due) {
        if (got != due) {
            wrong++;
            System.out.println(test + ": " + what + " answered " + got + ", due is " + due);
        }
    }

    void same(String what, boolean got, boolean due) {
        same(what, got ? 1 : 0, due ? 1 : 0);
    }

    void same(String what, String got, String due) {
        if (!got.equals(due)) {
            wrong++;
            System.out.println(test + ": " + what + " answered " + got + ", due is " + due);
        }
    }

    /** A run of the text on that shell must end with this code at this place (-1 with OK). */
    void run(Script script, String text, int code, int place) {
        int answer = script.run(text);
        same("run of: " + text, answer, code);
        same("errorAt of: " + text, script.shell.errorAt(), place);
    }

    /** A run of the text on a new shell must end with this code at this place. */
    void fails(String text, int code, int place) {
        run(new Script(), text, code, place);
    }

    void passes(String text) {
        run(new Script(), text, LooseShell.OK, -1);
    }

    /** On that shell the text must be OK, and its last expression have this value. */
    void gives(Script script, String text, int kind, long value) {
        run(script, text, LooseShell.OK, -1);
        same("resultKind of: " + text, script.shell.resultKind(), kind);
        same("resultValue of: " + text, script.shell.resultValue(), value);
    }

    void gives(String text, int kind, long value) {
        gives(new Script(), text, kind, value);
    }

    void end() {
        System.out.println(wrong == 0 ? "all answers are as due" : wrong + " answers are not as due");
        if (wrong != 0) {
            System.exit(1);
        }
    }
}
