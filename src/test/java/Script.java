import java.util.ArrayList;
import java.util.List;

/** A shell that is fed with written text: the names 0..15 are the letters a..p, a LONG ends in L. */
final class Script {
    /** What answers() tells of a shell that has done nothing. */
    static final String FRESH = "outputs 0:, errorAt -1, result -1/0, globals:, methods 0";

    static final String[] WORDS = (
        "boolean byte char int long var if else while break continue return print true false "
        + "( ) { } , ; = ! ~ + - * / % & | ^ << >> >>> < <= > >= == != && || "
        + "+= -= *= /= %= &= |= ^= <<= >>= >>>=").split(" ");

    final LooseShell shell;

    Script(int ticks) {
        shell = new LooseShell(ticks);
    }

    Script() {
        this(400);
    }

    /** Puts the text in, and runs it; answers what run() did. */
    int run(String text) {
        put(text);
        return shell.run();
    }

    /** Puts the text in; answers false if the shell refused a token of it. */
    boolean put(String text) {
        boolean taken = true;
        for (String token : tokensOf(text)) {
            taken = putToken(token) && taken;
        }
        return taken;
    }

    /** All that can be asked of the shell, in one line; globals that are not there are left out. */
    String answers() {
        StringBuilder line = new StringBuilder("outputs " + shell.outputs() + ":");
        for (int i = 0; i < shell.outputs(); i++) {
            line.append(" " + shell.outputKind(i) + "/" + shell.outputValue(i));
        }
        line.append(", errorAt " + shell.errorAt());
        line.append(", result " + shell.resultKind() + "/" + shell.resultValue() + ", globals:");
        for (int n = 0; n < 16; n++) {
            int kind = shell.globalKind(n);
            long value = shell.globalValue(n);
            line.append(kind == -1 && value == 0 ? "" : " " + (char) ('a' + n) + " " + kind + "/" + value);
        }
        return line + ", methods " + shell.methods();
    }

    static List<String> tokensOf(String text) {
        List<String> tokens = new ArrayList<>();
        int at = 0;
        while (at < text.length()) {
            if (text.charAt(at) == ' ') {
                at++;
            } else {
                String token = tokenAt(text, at);
                tokens.add(token);
                at += token.length();
            }
        }
        return tokens;
    }

    boolean putToken(String token) {
        char first = token.charAt(0);
        if (Character.isDigit(first)) {
            boolean wide = token.endsWith("L");
            String digits = wide ? token.substring(0, token.length() - 1) : token;
            return shell.number(Integer.parseInt(digits), wide);
        }
        if (token.length() == 1 && first >= 'a' && first <= 'p') {
            return shell.name(first - 'a');
        }
        return shell.word(codeOf(token));
    }

    static int codeOf(String word) {
        for (int i = 0; i < WORDS.length; i++) {
            if (WORDS[i].equals(word)) {
                return i;
            }
        }
        throw new IllegalArgumentException("no such word: " + word);
    }

    private static String tokenAt(String text, int at) {
        int end = at;
        while (end < text.length() && Character.isLetterOrDigit(text.charAt(end))) {
            end++;
        }
        if (end > at) {
            return text.substring(at, end);
        }
        String best = "";
        for (String word : WORDS) {
            if (text.startsWith(word, at) && word.length() > best.length()) {
                best = word;
            }
        }
        if (best.isEmpty()) {
            throw new IllegalArgumentException("no token at " + at + " of: " + text);
        }
        return best;
    }
}
