import java.util.ArrayDeque;
import java.util.ArrayList;
import java.util.Collections;
import java.util.Deque;
import java.util.List;
import java.util.Random;

/** Calls by chance from a fixed seed, the same ones each time, which go where something happens. */
final class Walk {
    private static final String[] WILD = {
        "part/1", "stand/1", "vote/2", "propose/4", "tell/2", "role/1", "term/1", "votedFor/1", "reach/2", "entries/1",
        "versionAt/2", "versions/0", "termOf/1", "holders/1", "isHeld/1", "wasHeld/1", "current/2", "addLot/0",
        "deliver/3", "condemn/1", "store/1", "book/3", "renew/2", "free/2", "booked/2", "stopped/0", "pass/1", "time/0",
        "missed/1", "batches/0", "versionOf/1", "lotsOf/1", "left/1", "barred/1", "barredAnew/1", "sell/2", "onSale/0",
        "traced/1", "tracedAt/2", "recalls/0", "recallOf/1", "calledBack/1", "why/1"};
    private static final int[] EDGES = {
        -1, 0, 1, 2, 3, 4, 5, 6, 8, 9, 10, 15, 16, 19, 20, 31, 32, 40, 41, 50, 51, 59, 60, 1000, 1001, 1 << 30,
        Integer.MAX_VALUE, Integer.MIN_VALUE};

    private final Random random;
    private final Deque<String> next = new ArrayDeque<>();

    Walk(long seed) {
        random = new Random(seed);
    }

    /** The next call, for the state that the model is in. */
    String next(Model model) {
        while (next.isEmpty()) {
            plan(model);
        }
        return next.poll();
    }

    private void plan(Model model) {
        int kind = random.nextInt(100);
        if (kind < 2) {
            election();
        } else if (kind < 5) {
            overthrow(model);
        } else if (kind < 22) {
            spread(model);
        } else if (kind < 30) {
            proposal(model);
        } else if (kind < 32) {
            add("part", number(3) != 0 ? 0 : number(32));
        } else if (kind < 42) {
            flour();
        } else if (kind < 54) {
            booking(model);
        } else if (kind < 59) {
            add("pass", random.nextInt(20) == 0 ? 1 + number(50) : 1 + number(3));
        } else if (kind < 69) {
            add("sell", number(model.batches() + 1), 1 + number(6));
        } else if (kind < 95) {
            question(model);
        } else {
            wild();
        }
    }

    private int number(int bound) {
        return random.nextInt(bound);
    }

    private void add(String name, int... arguments) {
        StringBuilder text = new StringBuilder(name).append('(');
        for (int i = 0; i < arguments.length; i++) {
            text.append(i == 0 ? "" : ", ").append(arguments[i]);
        }
        next.add(text.append(')').toString());
    }

    private void election() {
        int candidate = number(5);
        int stands = 1 + number(3);
        for (int i = 0; i < stands; i++) {
            add("stand", candidate);
        }
        int votes = number(6);
        for (int i = 0; i < votes; i++) {
            add("vote", number(5), candidate);
        }
    }

    /**
     * A version comes to be held in a term later than its own, and is overwritten then by one of a term between: so
     * that it is held no more. All logs are made alike first, else the votes are refused.
     */
    private void overthrow(Model model) {
        add("part", 0);
        List<Integer> row = new ArrayList<>(List.of(0, 1, 2, 3, 4));
        Collections.shuffle(row, random);
        int best = bestLog(model);
        row.remove((Integer) best);
        row.add(number(5), best);
        int[] terms = new int[5];
        for (int bakery = 0; bakery < 5; bakery++) {
            terms[bakery] = model.term(bakery);
        }
        elect(terms, best, (best + 1) % 5, (best + 2) % 5, (best + 3) % 5, (best + 4) % 5);
        for (int bakery = 0; bakery < 5; bakery++) {
            add("tell", best, bakery);
        }
        elect(terms, row.get(0), row.get(1), row.get(2));
        proposals(row.get(0));
        add("tell", row.get(0), row.get(1));
        elect(terms, row.get(4), row.get(2), row.get(3));
        proposals(row.get(4));
        elect(terms, row.get(0), row.get(1), row.get(2));
        add("tell", row.get(0), row.get(2));
        trade(model, row.get(number(3)));
        elect(terms, row.get(4), row.get(number(3)), row.get(3), row.get(2));
        add("tell", row.get(4), row.get(number(3)));
        if (number(2) == 0) {
            elect(terms, row.get(0), row.get(1), row.get(2));
            add("tell", row.get(0), row.get(number(5)));
        }
    }

    private static int bestLog(Model model) {
        int best = 0;
        for (int bakery = 1; bakery < 5; bakery++) {
            if (rank(model, bakery) > rank(model, best)) {
                best = bakery;
            }
        }
        return best;
    }

    private static int rank(Model model, int bakery) {
        int entries = model.entries(bakery);
        return entries == 0 ? 0 : 100 * model.termOf(model.versionAt(bakery, entries - 1)) + entries;
    }

    private void elect(int[] terms, int candidate, int... voters) {
        int top = 0;
        for (int term : terms) {
            top = Math.max(top, term);
        }
        for (; terms[candidate] <= top; terms[candidate]++) {
            add("stand", candidate);
        }
        for (int voter : voters) {
            add("vote", voter, candidate);
            terms[voter] = terms[candidate];
        }
    }

    private void proposals(int leader) {
        int times = 1 + number(2);
        for (int i = 0; i < times; i++) {
            add("propose", leader, number(2), 1 + number(3), 1 + number(12));
        }
    }

    private void trade(Model model, int bakery) {
        add("addLot");
        add("deliver", bakery, number(3), 1 + number(4));
        add("deliver", bakery, number(6), 1 + number(4));
        for (int i = 0; i < 3; i++) {
            add("book", bakery, model.time() + i, number(2));
        }
        add("pass", 2 + number(2));
        for (int batch = 0; batch < 4; batch++) {
            add("sell", model.batches() + batch, 1 + number(6));
        }
    }

    private int leader(Model model) {
        List<Integer> leaders = new ArrayList<>();
        for (int bakery = 0; bakery < 5; bakery++) {
            if (model.role(bakery) == 2) {
                leaders.add(bakery);
            }
        }
        return leaders.isEmpty() || number(30) == 0 ? number(5) : leaders.get(number(leaders.size()));
    }

    private void spread(Model model) {
        int leader = leader(model);
        int times = 1 + number(3);
        for (int i = 0; i < times; i++) {
            add("tell", leader, number(5));
        }
    }

    private void proposal(Model model) {
        int leader = leader(model);
        int times = 1 + number(3);
        for (int i = 0; i < times; i++) {
            add("propose", leader, number(3), 1 + number(3), 1 + number(12));
        }
    }

    private void flour() {
        int kind = number(20);
        if (kind < 3) {
            add("addLot");
        } else if (kind < 5) {
            add("condemn", number(8));
        } else {
            add("deliver", number(5), number(6), 1 + number(number(8) == 0 ? 50 : 4));
        }
    }

    private void booking(Model model) {
        int bakery = number(5);
        int hour = model.time() + (number(10) == 0 ? number(51) : number(4));
        int kind = number(10);
        if (kind < 7) {
            add("book", bakery, hour, number(3));
        } else if (kind < 9) {
            add("renew", bakery, hour);
        } else {
            add("free", bakery, hour);
        }
    }

    private void question(Model model) {
        List<String> calls = Observers.calls(model.versions(), model.batches(), model.recalls(), model.time());
        next.add(calls.get(number(calls.size())));
    }

    private void wild() {
        String[] parts = WILD[number(WILD.length)].split("/");
        int[] arguments = new int[Integer.parseInt(parts[1])];
        for (int i = 0; i < arguments.length; i++) {
            arguments[i] = EDGES[number(EDGES.length)];
        }
        add(parts[0], arguments);
    }
}
