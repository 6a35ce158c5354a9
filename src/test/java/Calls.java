import java.lang.reflect.InvocationTargetException;
import java.lang.reflect.Method;
import java.util.Arrays;
import java.util.StringJoiner;
import java.util.function.Supplier;

/** Calls written as texts, such as "make(20, 70)", on a StartTable or on a PlainRow. */
final class Calls {
    private int wrong = 0;

    /** The answer as a text: a number, or throws. and the name of the exception. */
    static String answer(Object target, String call) {
        int open = call.indexOf('(');
        String name = call.substring(0, open);
        String inside = call.substring(open + 1, call.length() - 1);
        Object[] arguments = Arrays.stream(inside.split(",")).map(t -> Integer.valueOf(t.trim())).toArray();
        Class<?>[] types = new Class<?>[arguments.length];
        Arrays.fill(types, int.class);
        try {
            Method method = target.getClass().getDeclaredMethod(name, types);
            return String.valueOf(method.invoke(target, arguments));
        } catch (InvocationTargetException e) {
            return "throws." + e.getCause().getClass().getSimpleName();
        } catch (ReflectiveOperationException e) {
            throw new IllegalStateException("no such call: " + call, e);
        }
    }

    /** A new object on which the calls have been made. */
    static StartTable after(String... calls) {
        StartTable table = new StartTable();
        for (String call : calls) {
            answer(table, call);
        }
        return table;
    }

    static String[] and(String[] calls, String... more) {
        String[] all = Arrays.copyOf(calls, calls.length + more.length);
        System.arraycopy(more, 0, all, calls.length, more.length);
        return all;
    }

    static String state(Object target) {
        return state(() -> target);
    }

    /** All that the face tells of the state; the objects that are made are all alike. */
    static String state(Supplier<?> made) {
        Asker asker = new Asker(made);
        StringJoiner told = new StringJoiner(" ");
        for (int what = 0; what <= 4; what++) {
            told.add(asker.ask("count", what));
        }
        int cells = Integer.parseInt(asker.ask("count", 0));
        int cards = Integer.parseInt(asker.ask("count", 1));
        told.add("| pieces");
        for (int cell = 0; cell < cells; ) {
            int size = Math.max(1, Integer.parseInt(asker.ask("size", cell)));
            int last = Math.min(cells, cell + size) - 1;
            told.add(asker.ask("begin", cell) + "+" + size);
            told.add(asker.ask("begin", last) + "+" + asker.ask("size", last));
            cell += size;
        }
        told.add("| cards");
        for (int card = 0; card < cards; card++) {
            told.add(asker.ask("start", card) + "/" + asker.ask("begins", card));
        }
        return told.toString();
    }

    void due(String where, String got, String want) {
        if (!got.equals(want)) {
            wrong++;
            System.out.println(where + " answered " + got + ", due is " + want);
        }
    }

    /** Each row is a call, " = " and the answer that is due; the rows go to one new object. */
    void run(String title, String... rows) {
        StartTable table = new StartTable();
        for (String row : rows) {
            String[] parts = row.split(" = ");
            due(title + ": " + parts[0], answer(table, parts[0]), parts[1]);
        }
    }

    /** Behind the rows, the pieces begin where the tiling says: "0 10 32 : 100" has the cells 0 .. 99. */
    void tiled(String title, String tiling, String... rows) {
        run(title, rows);
        String[] calls = Arrays.stream(rows).map(row -> row.split(" = ")[0]).toArray(String[]::new);
        String[] parts = tiling.split(" : ");
        int[] begins = Arrays.stream(parts[0].split(" ")).mapToInt(Integer::parseInt).toArray();
        PlainRow row = PlainRow.of(Integer.parseInt(parts[1]), begins);
        due(title + ": the state", state(() -> after(calls)), state(row));
    }

    /** Each call, made behind those that set it up, has the answer that is due and changes nothing. */
    void keeps(String title, String want, String[] setUp, String... calls) {
        String before = state(() -> after(setUp)) + laterAnswers(setUp);
        for (String call : calls) {
            String[] withIt = and(setUp, call);
            due(title + ": " + call, answer(after(setUp), call), want);
            due(title + ": behind " + call, state(() -> after(withIt)) + laterAnswers(withIt), before);
        }
    }

    void refuses(String title, String exception, String[] setUp, String... refused) {
        keeps(title, "throws." + exception, setUp, refused);
    }

    /** What the calls that change the row answer behind the calls given. */
    private static String laterAnswers(String[] calls) {
        StartTable table = after(calls);
        int cells = Integer.parseInt(answer(table, "count(0)"));
        int middle = cells / 2;
        StringJoiner told = new StringJoiner(" ", " | later ", "");
        told.add(answer(table, "join(" + middle + ")"));
        told.add(answer(table, "cut(" + middle + ")"));
        told.add(answer(table, "cut(" + (cells - 1) + ")"));
        told.add(answer(table, "make(" + cells / 3 + ", " + (middle + 1) + ")"));
        told.add(answer(table, "space(7)"));
        told.add(answer(table, "space(8)"));
        return told.toString();
    }

    void end() {
        System.out.println(wrong == 0 ? "all answers are as due" : wrong + " answers are not as due");
        if (wrong != 0) {
            System.exit(1);
        }
    }

    /** Asks one object, then another like it, because nothing is promised of an object for ever. */
    private static final class Asker {
        private static final int MOST_QUESTIONS = 400;
        private final Supplier<?> made;
        private Object target;
        private int asked = MOST_QUESTIONS;

        Asker(Supplier<?> made) {
            this.made = made;
        }

        String ask(String method, int argument) {
            if (asked == MOST_QUESTIONS) {
                target = made.get();
                asked = 0;
            }
            asked++;
            return answer(target, method + "(" + argument + ")");
        }
    }
}
