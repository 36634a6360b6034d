/** Counts what was not as due, and says it, with the sentence of the document that asks for it. */
final class Checks {
    private final String test;
    private String sentence = "";
    private int checkedInSentence = 1;
    private int wrong;

    Checks(String test) {
        this.test = test;
    }

    /** What is checked from here on is what these words of the document ask for. */
    void sentence(String words) {
        endSentence();
        sentence = words;
        checkedInSentence = 0;
    }

    private void endSentence() {
        if (checkedInSentence == 0) {
            say("nothing was checked");
        }
    }

    private void say(String what) {
        wrong++;
        System.out.println(test + ": " + (sentence.isEmpty() ? "" : "<" + sentence + "> ") + what);
    }

    void same(String what, long got, long due) {
        same(what, String.valueOf(got), String.valueOf(due));
    }

    void same(String what, boolean got, boolean due) {
        same(what, got ? 1 : 0, due ? 1 : 0);
    }

    void same(String what, String got, String due) {
        checkedInSentence++;
        if (!got.equals(due)) {
            say(what + " answered " + got + ", due is " + due);
        }
    }

    /** The shell must take every token of the text. */
    void put(Script script, String text) {
        same("taking: " + text, script.put(text), true);
    }

    /**
     * A run of the text on that shell must end with this code. An '@' in the text, which is not given to the shell,
     * stands before the token whose place errorAt() must tell; without one, that must be -1.
     */
    void run(Script script, String text, int code) {
        runInEarlier(script, text.replace("@", ""), code, text);
    }

    /** As above, but the '@' stands in the earlier text that has given the method in which the error is met. */
    void runInEarlier(Script script, String text, int code, String marked) {
        int mark = marked.indexOf('@');
        int place = mark < 0 ? -1 : Script.tokensOf(marked.substring(0, mark)).size();
        put(script, text);
        same("run of: " + text, script.shell.run(), code);
        same("errorAt of: " + text, script.shell.errorAt(), place);
    }

    void run(String text, int code) {
        run(new Script(), text, code);
    }

    void passes(Script script, String text) {
        run(script, text, LooseShell.OK);
    }

    void passes(String text) {
        run(text, LooseShell.OK);
    }

    void faulty(String text) {
        run(text, LooseShell.SYNTAX);
    }

    /** On that shell the text must be OK, and its last expression have this value. */
    void gives(Script script, String text, int kind, long value) {
        passes(script, text);
        result(script, text, kind, value);
    }

    void gives(String text, int kind, long value) {
        gives(new Script(), text, kind, value);
    }

    void result(Script script, String text, int kind, long value) {
        same("resultKind of: " + text, script.shell.resultKind(), kind);
        same("resultValue of: " + text, script.shell.resultValue(), value);
    }

    void global(Script script, int n, int kind, long value) {
        same("globalKind " + n, script.shell.globalKind(n), kind);
        same("globalValue " + n, script.shell.globalValue(n), value);
    }

    void output(Script script, int i, int kind, long value) {
        same("outputKind " + i, script.shell.outputKind(i), kind);
        same("outputValue " + i, script.shell.outputValue(i), value);
    }

    void end() {
        endSentence();
        System.out.println(wrong == 0 ? "all answers are as due" : wrong + " answers are not as due");
        if (wrong != 0) {
            System.exit(1);
        }
    }
}
