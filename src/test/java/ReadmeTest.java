/** The calls of the example in README.md, with the answers that it tells. */
public final class ReadmeTest {
    private static final Checks CHECKS = new Checks("ReadmeTest");

    public static void main(String[] args) {
        LooseShell shell = new LooseShell(400);
        declares(shell);
        prints(shell);
        divides(shell);
        CHECKS.end();
    }

    private static void declares(LooseShell shell) {
        boolean taken = shell.word(3) & shell.name(0) & shell.word(21) & shell.number(6, false) & shell.word(20);
        CHECKS.same("the first text", taken, true);
        CHECKS.same("the first run", shell.run(), LooseShell.OK);
        CHECKS.same("globalValue", shell.globalValue(0), 6);
        CHECKS.same("globalKind", shell.globalKind(0), LooseShell.INT + 8);
    }

    private static void prints(LooseShell shell) {
        boolean taken = shell.word(12) & shell.word(15) & shell.name(0) & shell.word(26) & shell.number(7, true)
            & shell.word(16) & shell.word(20);
        CHECKS.same("the second text", taken, true);
        CHECKS.same("the second run", shell.run(), LooseShell.OK);
        CHECKS.same("outputs", shell.outputs(), 1);
        CHECKS.same("outputKind", shell.outputKind(0), LooseShell.LONG);
        CHECKS.same("outputValue", shell.outputValue(0), 42);
    }

    private static void divides(LooseShell shell) {
        boolean taken = shell.name(0) & shell.word(27) & shell.number(0, false) & shell.word(20);
        CHECKS.same("the third text", taken, true);
        CHECKS.same("the third run", shell.run(), LooseShell.ZERO);
        CHECKS.same("errorAt", shell.errorAt(), 1);
        CHECKS.same("resultKind", shell.resultKind(), -1);
    }
}
