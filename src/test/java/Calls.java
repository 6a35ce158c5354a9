import java.lang.reflect.InvocationTargetException;
import java.lang.reflect.Method;
import java.util.Arrays;
import java.util.StringJoiner;

/** Calls written as texts, such as "make(20, 70)", on a StartTable or on a PlainRow. */
final class Calls {
    private int wrong = 0;

    /** The answer as a text: a number, or throws. and the name of the exception. */
    static String answer(Object target, String call) {
        int open = call.indexOf('(');
        String name = call.substring(0, open);
        String inside = call.substring(open + 1, call.length() - 1);
        Object[] arguments = Arrays.stream(inside.split(",")).map(t -> Integer.valueOf(t.trim())).toArray();
        Class<?>[] types = new Class<?>[arguments.length];
        Arrays.fill(types, int.class);
        try {
            Method method = target.getClass().getDeclaredMethod(name, types);
            return String.valueOf(method.invoke(target, arguments));
        } catch (InvocationTargetException e) {
            return "throws." + e.getCause().getClass().getSimpleName();
        } catch (ReflectiveOperationException e) {
            throw new IllegalStateException("no such call: " + call, e);
        }
    }

    /** All that the face tells of the state, in few calls: a piece is asked for once. */
    static String state(Object target) {
        StringJoiner told = new StringJoiner(" ");
        for (int what = 0; what <= 4; what++) {
            told.add(answer(target, "count(" + what + ")"));
        }
        int cells = Integer.parseInt(answer(target, "count(0)"));
        int cards = Integer.parseInt(answer(target, "count(1)"));
        told.add("| pieces");
        for (int cell = 0; cell < cells; ) {
            int size = Integer.parseInt(answer(target, "size(" + cell + ")"));
            told.add(answer(target, "begin(" + (cell + size - 1) + ")") + "+" + size);
            cell += Math.max(1, size);
        }
        told.add("| cards");
        for (int card = 0; card < cards; card++) {
            told.add(answer(target, "start(" + card + ")") + "/" + answer(target, "begins(" + card + ")"));
        }
        return told.toString();
    }

    void due(String where, String got, String want) {
        if (!got.equals(want)) {
            wrong++;
            System.out.println(where + " answered " + got + ", due is " + want);
        }
    }

    /** Each row is a call, " = " and the answer that is due; the rows go to one new object. */
    void run(String title, String... rows) {
        StartTable table = new StartTable();
        for (String row : rows) {
            String[] parts = row.split(" = ");
            due(title + ": " + parts[0], answer(table, parts[0]), parts[1]);
        }
    }

    /** After the calls that set it up, each of the refused calls throws and changes nothing. */
    void refuses(String title, String exception, String[] setUp, String... refused) {
        StartTable table = new StartTable();
        for (String call : setUp) {
            answer(table, call);
        }
        String before = state(table);
        for (String call : refused) {
            due(title + ": " + call, answer(table, call), "throws." + exception);
        }
        due(title + ": the state behind the refused calls", state(table), before);
    }

    void end() {
        System.out.println(wrong == 0 ? "all answers are as due" : wrong + " answers are not as due");
        if (wrong != 0) {
            System.exit(1);
        }
    }
}
