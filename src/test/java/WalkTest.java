import java.util.ArrayList;
import java.util.List;

/** Long walks by chance, each on a new object, with every answer held against that of the model. */
public final class WalkTest {
    private static final int WALKS = 2000;
    private static final int CALLS = 512;

    private static final List<String> DUE = List.of("throws.IndexOutOfBoundsException", "throws.IllegalArgumentException",
            "throws.IllegalStateException");

    private static int wrong = 0;
    private static int unheldRecalls = 0;
    private static int flourRecalls = 0;
    private static int doubleReasons = 0;
    private static int heldAgain = 0;
    private static int refused = 0;

    public static void main(String[] args) {
        for (int seed = 0; seed < WALKS && wrong == 0; seed++) {
            walk(seed);
        }
        for (int seed = 0; seed < 20 && wrong == 0; seed++) {
            walkOn(seed);
        }
        System.out.println("in " + WALKS + " walks: " + unheldRecalls + " recalls for UNHELD, " + flourRecalls + " for FLOUR, "
                + doubleReasons + " batches barred for both, " + heldAgain + " batches on sale after a recall, "
                + refused + " calls refused");
        if (wrong == 0 && (unheldRecalls < 100 || flourRecalls < 100 || doubleReasons < 100 || heldAgain < 10 || refused < 100)) {
            wrong++;
            System.out.println("the walks do not reach what they should try");
        }
        System.out.println(wrong == 0 ? "all answers are as the model's" : "the answers are not as the model's");
        if (wrong != 0) {
            System.exit(1);
        }
    }

    private static void walk(int seed) {
        Walk walk = new Walk(seed);
        QuorumBakery x = new QuorumBakery();
        Model model = new Model();
        List<String> rows = new ArrayList<>();
        for (int i = 0; i < CALLS; i++) {
            String call = walk.next(model);
            String got = Calls.answer(x, call);
            String want = Calls.answer(model, call);
            rows.add(call + " " + got);
            if (!got.equals(want)) {
                wrong++;
                System.out.println("walk " + seed + ": " + String.join("; ", rows) + ", due is " + want);
                return;
            }
            if (got.startsWith("throws.")) {
                refused++;
            }
        }
        countWhatHappened(model);
    }

    /** What an object answers to so many calls is free, but the machine itself must not throw in it. */
    private static void walkOn(int seed) {
        Walk walk = new Walk(seed);
        QuorumBakery x = new QuorumBakery();
        Model model = new Model();
        for (int i = 0; i < 8 * CALLS; i++) {
            String call = walk.next(model);
            Calls.answer(model, call);
            String got = Calls.answer(x, call);
            if (got.startsWith("throws.") && !DUE.contains(got)) {
                wrong++;
                System.out.println("walk on " + seed + ", call " + i + ": " + call + " " + got);
                return;
            }
        }
    }

    private static void countWhatHappened(Model model) {
        for (int recall = 0; recall < model.recalls(); recall++) {
            if (model.why(recall) == 1) {
                unheldRecalls++;
                heldAgain += model.barred(model.recallOf(recall)) == 0 ? 1 : 0;
            } else {
                flourRecalls++;
            }
        }
        for (int batch = 0; batch < model.batches(); batch++) {
            doubleReasons += model.barred(batch) == 3 ? 1 : 0;
        }
    }
}
