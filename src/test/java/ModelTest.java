import java.lang.reflect.InvocationTargetException;
import java.lang.reflect.Method;
import java.util.ArrayList;
import java.util.Arrays;
import java.util.Comparator;
import java.util.List;

/** All promises: long runs of calls, each answered by the program and by the model. */
public final class ModelTest {
    private static final int RUNS = 400;
    private static final int CALLS = 512;
    private static final int[] EDGES = {
        Integer.MIN_VALUE, -1000, -999, -2, -1, 64, 65, 138, 998, 999, 1000, Integer.MAX_VALUE,
    };
    private static final List<String> CHANGES = List.of(
        "set", "append", "append", "append", "truncate", "release", "collect", "undo",
        "set", "append", "set", "truncate", "saveState", "restoreState", "undo", "runScript");

    private final Numbers numbers;
    private final int run;
    private VectorVersions program = new VectorVersions();
    private Model model = new Model();
    private final List<Method> methods;
    private int calls = 0;
    private final StringBuilder log = new StringBuilder();

    /** Numbers that are the same in each run of the test. */
    private static final class Numbers {
        private long seed;

        Numbers(long seed) {
            this.seed = seed * 2862933555777941757L + 3037000493L;
        }

        int below(int bound) {
            seed = seed * 6364136223846793005L + 1442695040888963407L;
            return (int) ((seed >>> 33) % bound);
        }

        boolean oneIn(int times) {
            return below(times) == 0;
        }
    }

    private ModelTest(int run) {
        this.run = run;
        numbers = new Numbers(run);
        methods = new ArrayList<>();
        for (Method method : VectorVersions.class.getDeclaredMethods()) {
            if (java.lang.reflect.Modifier.isPublic(method.getModifiers())) {
                methods.add(method);
            }
        }
        methods.sort(Comparator.comparing(Method::getName));
    }

    public static void main(String[] args) throws Exception {
        int runs = args.length > 0 ? Integer.parseInt(args[0]) : RUNS;
        for (int run = 0; run < runs && !Expect.hasFailed(); run++) {
            new ModelTest(run).play();
        }
        Expect.finish("ModelTest");
    }

    private void play() throws Exception {
        if (!numbers.oneIn(3)) {
            text("loadSetup", setup(numbers.oneIn(2) ? 65 : 20));
        }
        while (calls < CALLS - 60) {
            switch (numbers.below(12)) {
                case 0 -> text("runScript", numbers.oneIn(3) ? spoiled(script()) : script());
                case 1 -> rareText();
                case 2, 3, 4 -> change(CHANGES.get(numbers.below(CHANGES.size())));
                default -> anyCall();
            }
        }
    }

    // Without these calls versions and nodes become many, so each kind of run goes without some of them.
    private boolean isLeftOut(String name) {
        return switch (name) {
            case "loadSetup" -> run % 5 != 0;
            case "restoreState", "undo" -> run % 5 > 2 && !numbers.oneIn(20);
            case "release" -> run % 3 == 0;
            default -> false;
        };
    }

    private void anyCall() throws Exception {
        String name = methods.get(numbers.below(methods.size())).getName();
        if (!isLeftOut(name)) {
            call(name);
        }
    }

    private void rareText() throws Exception {
        if (isLeftOut("loadSetup")) {
            return;
        }
        if (numbers.oneIn(3)) {
            text("loadSetup", setup(70));
        } else {
            text("loadSetup", spoiled(setup(70)));
        }
    }

    private void change(String name) throws Exception {
        if (!isLeftOut(name)) {
            call(name);
        }
    }

    private void text(String name, String text) throws Exception {
        call("truncateInput", 0);
        int length = 0;
        for (int start = 0; start < text.length() && length + 20 <= 600; start += 20) {
            Integer[] words = new Integer[5];
            for (int i = 0; i < 20; i++) {
                int place = start + i;
                int part = place < text.length() ? text.charAt(place) & 255 : numbers.below(256);
                words[i / 4] = (i % 4 == 0 ? 0 : words[i / 4] << 8) | part;
            }
            call("appendInput", (Object[]) words);
            length = Math.min(start + 20, text.length());
        }
        call("truncateInput", length);
        call(name);
        call("errorCode");
        call("errorOffset");
    }

    // ---- texts ----

    private String blank(boolean needed) {
        String blanks = " ".repeat(numbers.oneIn(4) ? numbers.below(3) : 0) + (numbers.oneIn(9) ? "\n" : "");
        return needed && blanks.isEmpty() ? " " : blanks;
    }

    private String number(int bound) {
        String digits = Integer.toString(numbers.below(bound));
        return numbers.oneIn(12) && digits.length() < 3 ? "0" + digits : digits;
    }

    private String value() {
        String start = numbers.oneIn(4) ? "minus" + blank(false) : "";
        return start + number(numbers.oneIn(3) ? 1000 : 4);
    }

    private String setup(int bound) {
        int size = numbers.oneIn(5) ? bound - 1 : numbers.below(bound);
        StringBuilder text = new StringBuilder("list" + blank(false));
        for (int i = 0; i < size; i++) {
            String value = size > 60 ? number(10) : value();
            text.append(blank(true)).append(value);
            if (numbers.oneIn(20)) {
                text.append(";list");
            }
        }
        return text + blank(false) + ";" + blank(false);
    }

    private String script() {
        StringBuilder text = new StringBuilder(blank(false));
        int statements = numbers.oneIn(8) ? 29 + numbers.below(3) : numbers.below(6);
        for (int i = 0; i < statements; i++) {
            int kind = statements > 8 ? 4 * numbers.below(2) : numbers.below(5);
            text.append(statement(statements > 8 && kind == 0 ? 1 : kind)).append(blank(false)).append(';');
        }
        return text.toString();
    }

    private String statement(int kind) {
        String version = blank(false) + number(numbers.oneIn(20) ? 42 : model.versionCount());
        switch (kind) {
            case 0:
                return "set" + version + blank(true) + number(numbers.oneIn(9) ? 65 : 12) + blank(true) + value();
            case 1:
                return "append" + version + blank(true) + value();
            case 2:
                return "truncate" + version + blank(true) + number(numbers.oneIn(9) ? 66 : 12);
            case 3:
                return numbers.oneIn(2) ? "release" + version : "collect";
            default:
                return "collect";
        }
    }

    private String spoiled(String text) {
        String signs = "  ;;09azslm\n-A\u0000\u0080\u00ff\t";
        StringBuilder spoiled = new StringBuilder(text);
        for (int i = numbers.below(3); i >= 0; i--) {
            int place = numbers.below(spoiled.length() + 1);
            char sign = signs.charAt(numbers.below(signs.length()));
            if (numbers.oneIn(3) || place == spoiled.length()) {
                spoiled.insert(place, sign);
            } else if (numbers.oneIn(2)) {
                spoiled.deleteCharAt(place);
            } else if (numbers.oneIn(3)) {
                spoiled.setLength(place);
            } else {
                spoiled.setCharAt(place, sign);
            }
        }
        return spoiled.toString();
    }

    // ---- calls ----

    private void call(String name, Object... given) throws Exception {
        calls++;
        Method method = methods.stream().filter(m -> m.getName().equals(name)).findFirst().get();
        Class<?>[] types = method.getParameterTypes();
        Object[] arguments = new Object[types.length];
        for (int i = 0; i < arguments.length; i++) {
            arguments[i] = i < given.length ? given[i] : argument(name, i);
        }
        Object got = answer(method, program, arguments);
        Object due = answer(Model.class.getDeclaredMethod(name, types), model, arguments);
        log.append(name).append(Arrays.toString(arguments)).append(" = ").append(due).append('\n');
        if (!due.equals(got)) {
            System.out.println(log);
        }
        Expect.same("run " + run + " call " + calls + " " + name + Arrays.toString(arguments), due, got);
    }

    private static Object answer(Method method, Object target, Object[] arguments) throws Exception {
        try {
            return method.invoke(target, arguments);
        } catch (InvocationTargetException e) {
            return e.getCause().getClass().getSimpleName();
        }
    }

    private int argument(String name, int position) {
        if (numbers.oneIn(25)) {
            return EDGES[numbers.below(EDGES.length)];
        }
        boolean ofNode = List.of("isLeaf", "entryCount", "childOf", "referencesTo").contains(name);
        boolean ofInput = name.equals("appendInput") || name.equals("truncateInput");
        boolean ofOutput = name.equals("outputByte");
        boolean ofVersion = !ofInput && !ofOutput && !ofNode;
        if (position == 0 && ofVersion) {
            return recentVersion();
        }
        if (position == 1 && List.of("commonAncestor", "sharedNodes", "differences", "firstDifference",
                "comparisonCost").contains(name)) {
            return recentVersion();
        }
        if (position == 0 && ofNode) {
            return numbers.below(model.createdNodes() + 2);
        }
        if (ofInput) {
            return numbers.below(620);
        }
        if (name.equals("append") || position == 2 || name.equals("indexOf")) {
            return numbers.below(numbers.oneIn(3) ? 2001 : 3) - (numbers.oneIn(3) ? 1000 : 1);
        }
        return indexLike(name);
    }

    private int recentVersion() {
        int count = model.versionCount();
        return numbers.oneIn(2) ? Math.max(0, count - 1 - numbers.below(4)) : numbers.below(count + 1);
    }

    private int indexLike(String name) {
        if (name.equals("childOf")) {
            return numbers.below(6) - 1;
        }
        if (name.equals("outputByte")) {
            return numbers.below(80) - 1;
        }
        if (name.equals("truncate") && numbers.oneIn(2)) {
            return 4 * numbers.below(17);
        }
        return numbers.below(numbers.oneIn(2) ? 66 : 12);
    }
}
