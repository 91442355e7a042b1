import java.util.ArrayList;
import java.util.List;
import java.util.TreeSet;

/**
 * Runs of calls on new objects, written as text: rows parted by lines or semicolons, each "call" or "call = answer",
 * with "N * " ahead of a row that comes N times; an answer may be throws. and the name of an exception. A row without
 * an answer must not throw.
 *
 * A run is held against the model, too, in each row and at its end with all that can be asked; and for each row that
 * throws an exception a second object that is spared this call must answer the same afterwards.
 */
final class Runs {
    private static final int CALLS = 512;
    private static final int WALK = 60;
    private static final String[] FIRST = {"vote(0, 1)", "vote(1, 0)", "vote(2, 0)", "vote(3, 0)", "pass(1)"};

    private static final TreeSet<Integer> promises = new TreeSet<>();
    private static int runs = 0;
    private static int wrong = 0;

    private record Row(String call, String answer) { }

    private Runs() {
    }

    /** A test of the promise of this number. */
    static void promise(int number, String... parts) {
        run(number, "promise " + number, parts);
    }

    /** A test of a boundary case that a sentence of the document names, for the promise of this number. */
    static void boundary(int number, String sentence, String... parts) {
        run(number, "promise " + number + ", \"" + sentence + "\"", parts);
    }

    /** The same, with calls between the two parts, so that the last row is the last call that an object is used for. */
    static void toTheEnd(int number, String sentence, String before, String last) {
        int between = CALLS - parse(before).size() - parse(last).size();
        boundary(number, sentence, before, between - 1 + " * part(3)", "part(0)", last);
    }

    /**
     * A test of the range of one argument, from low to high: after the scene, the call with ? in place of the argument is
     * refused for each value outside, and then the rows of inside, which have low and high in them, are answered.
     */
    static void range(int number, String what, int low, int high, String call, String exception, String scene, String inside) {
        StringBuilder rows = new StringBuilder(scene).append('\n');
        for (int value : outside(low, high)) {
            rows.append(call.replace("?", String.valueOf(value))).append(" = throws.").append(exception).append('\n');
        }
        boundary(number, what + ": " + low + " to " + high, rows.toString(), inside);
    }

    /** Just outside, the ends of the int, and those that a shift by 32 or 64 would take for one inside. */
    private static TreeSet<Integer> outside(int low, int high) {
        TreeSet<Integer> values = new TreeSet<>(List.of(low - 1, high + 1, Integer.MIN_VALUE, Integer.MAX_VALUE));
        for (int wrap : new int[] {32, 64, 128, 256, 65536}) {
            values.add(low - wrap);
            values.add(high + wrap);
        }
        return values;
    }

    private static void run(int number, String what, String... parts) {
        promises.add(number);
        runs++;
        String name = what + ", run " + runs;
        List<Row> rows = parse(String.join("\n", parts));
        if (rows.size() > CALLS) {
            fail(name, "has " + rows.size() + " calls, too many");
            return;
        }
        QuorumBakery x = new QuorumBakery();
        Model model = new Model();
        for (int i = 0; i < rows.size(); i++) {
            Row row = rows.get(i);
            String got = Calls.answer(x, row.call());
            String modelled = Calls.answer(model, row.call());
            String want = row.answer().isEmpty() ? modelled : row.answer();
            if (!got.equals(want) || !modelled.equals(want) || row.answer().isEmpty() && got.startsWith("throws.")) {
                fail(name, "call " + (i + 1) + ", " + row.call() + " answered " + got + ", due is " + want
                        + ", and the model's is " + modelled);
                return;
            }
            if (got.startsWith("throws.") && !isRepeated(rows, i)) {
                changesNothing(name, rows, i);
            }
        }
        isAsModel(name, rows);
    }

    /** Ends the test: these promises must have been tested. */
    static void end(int from, int to) {
        for (int number = from; number <= to; number++) {
            if (!promises.contains(number)) {
                fail("promise " + number, "has no test");
            }
        }
        System.out.println(runs + " runs for the promises " + from + " to " + to + ": "
                + (wrong == 0 ? "all answers are as due" : wrong + " are not as due"));
        if (wrong != 0) {
            System.exit(1);
        }
    }

    private static void fail(String name, String what) {
        wrong++;
        System.out.println(name + ": " + what);
    }

    private static List<Row> parse(String text) {
        List<Row> rows = new ArrayList<>();
        for (String piece : text.split("[;\n]")) {
            String row = piece.trim();
            if (!row.isEmpty()) {
                int star = row.indexOf('*');
                int times = star < 0 ? 1 : Integer.parseInt(row.substring(0, star).trim());
                String[] sides = row.substring(star + 1).split("=");
                Row one = new Row(sides[0].trim(), sides.length == 1 ? "" : sides[1].trim());
                for (int i = 0; i < times; i++) {
                    rows.add(one);
                }
            }
        }
        return rows;
    }

    private static boolean isRepeated(List<Row> rows, int i) {
        return i > 0 && rows.get(i - 1).equals(rows.get(i));
    }

    private static <T> T after(T target, List<Row> rows) {
        for (Row row : rows) {
            Calls.answer(target, row.call());
        }
        return target;
    }

    private static void isAsModel(String name, List<Row> rows) {
        for (List<String> calls : observations(rows, 0)) {
            compare(name, after(new QuorumBakery(), rows), after(new Model(), rows), calls);
        }
    }

    private static void changesNothing(String name, List<Row> rows, int i) {
        List<Row> before = rows.subList(0, i);
        List<Row> with = rows.subList(0, i + 1);
        String what = name + ", after the refused call " + rows.get(i).call();
        List<List<String>> rounds = observations(before, 1);
        rounds.add(walk(before, i));
        rounds.add(walk(before, i + 1000));
        for (List<String> calls : rounds) {
            compare(what, after(new QuorumBakery(), with), after(new QuorumBakery(), before), calls);
        }
    }

    private static void compare(String name, Object x, Object y, List<String> calls) {
        for (String call : calls) {
            String got = Calls.answer(x, call);
            String want = Calls.answer(y, call);
            if (!got.equals(want)) {
                fail(name, call + " answered " + got + ", due is " + want);
                return;
            }
        }
    }

    /** All that can be asked after these rows, parted so that no object is called too often. */
    private static List<List<String>> observations(List<Row> rows, int more) {
        Model model = after(new Model(), rows);
        List<String> calls = Observers.calls(model.versions(), model.batches(), model.recalls(), model.time());
        int most = CALLS - rows.size() - more;
        List<List<String>> rounds = new ArrayList<>();
        for (int from = 0; from < calls.size() && most > 0; from += most) {
            rounds.add(calls.subList(from, Math.min(calls.size(), from + most)));
        }
        return rounds;
    }

    /** Calls that go on from there, for what cannot be asked: who has voted, and the order of the bags. */
    private static List<String> walk(List<Row> rows, int seed) {
        List<String> calls = new ArrayList<>();
        if (rows.size() + 1 + WALK > CALLS) {
            return calls;
        }
        Model model = after(new Model(), rows);
        Walk walk = new Walk(seed);
        for (int i = 0; i < WALK; i++) {
            String call = i < FIRST.length ? FIRST[i] : walk.next(model);
            Calls.answer(model, call);
            calls.add(call);
        }
        return calls;
    }
}
