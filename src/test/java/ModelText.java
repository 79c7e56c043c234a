import java.util.ArrayList;
import java.util.List;
import java.util.regex.Matcher;
import java.util.regex.Pattern;

/** Setups and scripts, read by the words of the document: a list of tokens first, then statement by statement. */
final class ModelText {
    private static final Pattern TOKEN = Pattern.compile("[a-z]+|[0-9]+|[^ \n]", Pattern.DOTALL);
    private static final List<String> WORDS = List.of("set", "append", "truncate", "release", "collect");
    private static final List<String> FORMS = List.of("VIL", "VL", "VS", "V", "");

    private static final class TextError extends RuntimeException {
        private static final long serialVersionUID = 1;
        final int code;

        TextError(int code) {
            this.code = code;
        }
    }

    int errorCode = 0;
    int errorOffset = -1;
    private final List<String> tokens = new ArrayList<>();
    private final List<Integer> offsets = new ArrayList<>();
    private int next = 0;

    ModelText(String text) {
        Matcher matcher = TOKEN.matcher(text);
        while (matcher.find()) {
            tokens.add(matcher.group());
            offsets.add(matcher.start());
        }
        tokens.add("");
        offsets.add(text.length());
    }

    List<Integer> setup() {
        List<Integer> values = new ArrayList<>();
        try {
            while (!tokens.get(next).isEmpty()) {
                word("list");
                while (!tokens.get(next).equals(";")) {
                    boolean starts = tokens.get(next).equals("minus") || isNumber();
                    need(starts, 1);
                    need(values.size() < 64, 3);
                    values.add(value());
                }
                next++;
            }
        } catch (TextError e) {
            report(e);
            return null;
        }
        return values;
    }

    List<List<Integer>> script() {
        List<List<Integer>> statements = new ArrayList<>();
        try {
            while (!tokens.get(next).isEmpty()) {
                int word = WORDS.indexOf(tokens.get(next));
                need(word >= 0, 1);
                need(statements.size() < 30, 3);
                next++;
                statements.add(statement(word));
            }
        } catch (TextError e) {
            report(e);
            return null;
        }
        return statements;
    }

    private List<Integer> statement(int word) {
        List<Integer> statement = new ArrayList<>(List.of(word));
        for (char form : FORMS.get(word).toCharArray()) {
            switch (form) {
                case 'V' -> statement.add(number(39));
                case 'I' -> statement.add(number(63));
                case 'S' -> statement.add(number(64));
                default -> statement.add(value());
            }
        }
        word(";");
        return statement;
    }

    private int value() {
        if (tokens.get(next).equals("minus")) {
            next++;
            return -number(999);
        }
        return number(999);
    }

    private int number(int greatest) {
        need(isNumber(), 1);
        int number = Integer.parseInt(tokens.get(next));
        need(number <= greatest, 2);
        next++;
        return number;
    }

    private void word(String due) {
        need(tokens.get(next).equals(due), 1);
        next++;
    }

    private boolean isNumber() {
        return tokens.get(next).matches("[0-9]{1,3}");
    }

    private void need(boolean holds, int code) {
        if (!holds) {
            throw new TextError(code);
        }
    }

    private void report(TextError error) {
        errorCode = error.code;
        errorOffset = offsets.get(next);
    }
}
