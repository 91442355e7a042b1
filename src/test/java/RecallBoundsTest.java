/**
 * Promises 31 to 44 at their bounds: each sentence of the document that names a boundary case has a run of its own, which
 * bears its words.
 */
public final class RecallBoundsTest {
    private static final String INDEX = "IndexOutOfBoundsException";
    private static final String ARGUMENT = "IllegalArgumentException";
    private static final String BUSY = Scenes.BUSY;
    private static final String HELD_0 = Scenes.HELD_0;
    private static final String TWO_BATCHES = Scenes.TWO_BATCHES;
    private static final String SIXTY = Scenes.LEADER_0 + Scenes.SIXTY_BATCHES;

    /** After RIVALS: batches 0 and 1 of version 0, each of 10 loaves, of lot 0. */
    private static final String BATCHES_OF_RIVALS = Scenes.RIVALS + Scenes.FLOUR_0
            + "book(0, 0, 0) = 0; book(0, 1, 0) = 0; pass(2) = 2\n";

    public static void main(String[] args) {
        batches();
        versionOf();
        lotsOf();
        left();
        barred();
        barredAnew();
        barredAnewAtTheEnd();
        sellRanges();
        sellRefused();
        onSale();
        traced();
        tracedAt();
        recalls();
        recallsOfManyVersions();
        recallsOfManyRounds();
        askRecalls();
        Runs.end(31, 44);
    }

    /** The range of the batches, of some and of 60, and a call without batches. */
    private static void batch(int promise, String name, String lowest, String highest, String ofSixty) {
        Runs.range(promise, "a batch", 0, 3, name + "(?)", INDEX, BUSY, name + "(0) = " + lowest + ";" + name + "(3) = " + highest);
        Runs.range(promise, "a batch, of 60", 0, 59, name + "(?)", INDEX, SIXTY, name + "(0) = " + ofSixty + ";" + name + "(59) = " + ofSixty);
        Runs.boundary(promise, "if there is no such batch: none", HELD_0, Scenes.FLOUR_0, name + "(0) = throws.IndexOutOfBoundsException",
                name + "(-1) = throws.IndexOutOfBoundsException; book(0, 0, 0) = 0;" + name + "(0) = throws.IndexOutOfBoundsException",
                "pass(1) = 1;" + name + "(0);" + name + "(1) = throws.IndexOutOfBoundsException");
    }

    // ---- promises 31 to 34

    private static void batches() {
        Runs.boundary(31, "how many batches there are: none, then one", HELD_0, Scenes.FLOUR_0,
                "batches() = 0; book(0, 0, 0) = 0; batches() = 0; pass(1) = 1; batches() = 1");
        Runs.boundary(31, "how many batches there are: a missed one is none", HELD_0, "book(0, 0, 0) = 0; pass(1) = 0; batches() = 0");
        Runs.boundary(31, "how many batches there are: 60", SIXTY, "batches() = 60; book(0, 60, 0) = 0; pass(1) = 0; batches() = 60");
    }

    private static void versionOf() {
        batch(32, "versionOf", "0", "1", "0");
        // The last version that there can be.
        Runs.boundary(32, "the version of a batch: the 60th", Scenes.SIXTY_VERSIONS, """
                tell(3, 4) = 10; tell(3, 0) = 11; addLot() = 0; deliver(3, 0, 1) = 1; book(3, 0, 5) = 59; pass(1) = 1; versionOf(0) = 59
                barred(0) = 0; barredAnew(0) = 0; onSale() = 1
                """);
    }

    private static void lotsOf() {
        batch(33, "lotsOf", "1", "8", "1");
        String sentence = "Returns the set, bit l for the lot l.";
        for (int lot = 0; lot < 16; lot++) {
            Runs.boundary(33, sentence, HELD_0, "16 * addLot(); deliver(1, LOT, 3) = 3; book(1, 0, 0) = 0; pass(1) = 1".replace("LOT", "" + lot),
                    "lotsOf(0) = " + (1 << lot));
        }
        Runs.boundary(33, sentence + " The first and the last of 16", HELD_0, """
                16 * addLot(); deliver(1, 15, 1) = 1; deliver(1, 0, 1) = 2; book(1, 0, 0) = 0; pass(1) = 1; lotsOf(0) = 32769
                condemn(0) = 0; lotsOf(0) = 32769
                """);
        Runs.boundary(33, sentence + " Of 9 bags, 9 of them", Scenes.LEADER_0, """
                propose(0, 0, 9, 1) = 0; tell(0, 1) = 1; tell(0, 2) = 1; 16 * addLot(); deliver(1, 15, 1) = 1; deliver(1, 14, 1) = 2
                deliver(1, 13, 1) = 3; deliver(1, 12, 1) = 4; deliver(1, 11, 1) = 5; deliver(1, 10, 1) = 6; deliver(1, 9, 1) = 7
                deliver(1, 8, 1) = 8; deliver(1, 7, 1) = 9; deliver(1, 6, 1) = 10; book(1, 0, 0) = 0; pass(1) = 1; lotsOf(0) = 65408
                """);
    }

    private static void left() {
        batch(34, "left", "10", "40", "40");
        String sentence = "how many loaves of a batch were not sold; those that were called back were sold";
        Runs.boundary(34, sentence + ": all are left, then none", TWO_BATCHES, "left(0) = 10; sell(0, 10) = 0; left(0) = 0; left(1) = 10");
        Runs.boundary(34, sentence + ": all were called back", TWO_BATCHES, "sell(0, 10) = 0; condemn(0) = 10; left(0) = 0; left(1) = 10");
        Runs.boundary(34, sentence + ": of batches of 1 and of 40 loaves", Scenes.LEADER_0, Scenes.FLOUR_0, """
                propose(0, 0, 1, 1) = 0; propose(0, 1, 1, 40) = 1; tell(0, 1) = 2; tell(0, 2) = 2; book(0, 0, 0) = 0; book(0, 1, 1) = 1
                pass(2) = 2; left(0) = 1; left(1) = 40; sell(0, 1) = 0; sell(1, 39) = 1; left(0) = 0; left(1) = 1
                """);
    }

    // ---- promises 35 and 36

    private static void barred() {
        batch(35, "barred", "0", "0", "0");
        String sentence = "Returns UNHELD and FLOUR, added, as far as they apply; 0 if it is not barred.";
        for (int promise = 35; promise <= 36; promise++) {
            String name = promise == 35 ? "barred" : "barredAnew";
            Runs.boundary(promise, sentence + " 0, then UNHELD, then 0", BATCHES_OF_RIVALS, name + "(0) = 0", Scenes.OVERTHROW,
                    name + "(0) = 1;" + name + "(1) = 1", Scenes.HELD_AGAIN, name + "(0) = 0;" + name + "(1) = 0");
            Runs.boundary(promise, sentence + " FLOUR", TWO_BATCHES, "condemn(0) = 0;" + name + "(0) = 2;" + name + "(1) = 2");
            Runs.boundary(promise, sentence + " Both", BATCHES_OF_RIVALS, Scenes.OVERTHROW, "condemn(0) = 0;" + name + "(0) = 3");
            Runs.boundary(promise, sentence + " Both, in the other order", BATCHES_OF_RIVALS, "condemn(0) = 0;" + name + "(0) = 2",
                    Scenes.OVERTHROW, name + "(0) = 3", Scenes.HELD_AGAIN, name + "(0) = 2");
            // 4 have the version, then 3, then 2.
            Runs.boundary(promise, "while its version is not held", BATCHES_OF_RIVALS, "tell(0, 3) = 1", Scenes.LEADER_4,
                    "tell(4, 1) = 1;" + name + "(0) = 0; tell(4, 2) = 1;" + name + "(0) = 1");
            // The first and the last of 16 lots.
            Runs.boundary(promise, "from when one of its lots is condemned", HELD_0, """
                    16 * addLot(); deliver(0, 15, 1) = 1; deliver(0, 0, 2) = 3; deliver(0, 1, 1) = 4; book(0, 0, 0) = 0; book(0, 1, 0) = 0
                    pass(2) = 2; condemn(14) = 0; CALL(0) = 0; CALL(1) = 0; condemn(15) = 0; CALL(0) = 2; CALL(1) = 0; condemn(0) = 0
                    CALL(0) = 2; CALL(1) = 2; condemn(1) = 0; CALL(1) = 2
                    """.replace("CALL", name));
        }
    }

    private static void barredAnew() {
        batch(36, "barredAnew", "0", "0", "0");
        String sentence = "from all that was done from the beginning on by part(), stand(), vote(), propose() and tell()";
        Runs.boundary(36, sentence + ": what was refused was not done", BATCHES_OF_RIVALS, """
                part(1) = 4; tell(0, 3) = throws.IllegalStateException; part(0) = 0; vote(1, 0) = throws.IllegalStateException
                propose(1, 0, 1, 1) = throws.IllegalStateException; propose(0, 0, 10, 1) = throws.IllegalArgumentException
                stand(5) = throws.IndexOutOfBoundsException; tell(0, 0) = throws.IllegalArgumentException; barredAnew(0) = 0
                """, Scenes.OVERTHROW, "barredAnew(0) = 1", Scenes.HELD_AGAIN, "barredAnew(0) = 0");
        // Standing a hundred times and refused the hundred and first time: done once more, it is in term 100.
        Runs.boundary(36, sentence + ": to term 100", Scenes.LEADER_0, """
                propose(0, 0, 2, 10) = 0; tell(0, 1) = 1; tell(0, 2) = 1; addLot() = 0; deliver(0, 0, 2) = 2; book(0, 0, 0) = 0; pass(1) = 1
                100 * stand(4); stand(4) = throws.IllegalStateException; barredAnew(0) = 0; vote(0, 4) = false; vote(3, 4) = true
                barredAnew(0) = 0; role(4) = 1
                """);
        Runs.boundary(36, sentence + ": 60 versions, full logs", Scenes.SIXTY_VERSIONS, """
                tell(3, 4) = 10; tell(3, 0) = 11; addLot() = 0; deliver(3, 0, 9) = 9; book(3, 0, 5) = 59; book(3, 1, 0) = 30; pass(2) = 2
                propose(3, 0, 1, 1) = throws.IllegalStateException; propose(2, 0, 1, 1) = throws.IllegalStateException
                barredAnew(0) = 0; barredAnew(1) = 0; tell(3, 2) = 10; tell(3, 1) = 11; barredAnew(0) = 0; holders(59) = 31
                """);
        // Terms that only a stand or a vote has made: without them done once more, the leader would be heard.
        Runs.boundary(36, sentence + ": a stand that makes a term greater", BATCHES_OF_RIVALS, Scenes.OVERTHROW,
                "2 * stand(3); term(3) = 4; tell(0, 3) = -1; barredAnew(0) = 1; barred(0) = 1");
        Runs.boundary(36, sentence + ": a vote that makes a term greater", BATCHES_OF_RIVALS, Scenes.OVERTHROW,
                "stand(1) = 5; vote(3, 1) = true; tell(0, 3) = -1; barredAnew(0) = 1; barred(0) = 1");
        Runs.boundary(36, sentence + ": the first of all", BATCHES_OF_RIVALS, "tell(4, 1) = -1; barredAnew(0) = 0; barred(0) = 0");
        Runs.boundary(36, sentence + ": from the beginning on, each time", Scenes.LEADER_0, Scenes.FLOUR_0, """
                propose(0, 0, 1, 1) = 0; tell(0, 3) = 1; tell(0, 4) = 1; book(0, 0, 0) = 0; pass(1) = 1
                9 * stand(3); 9 * stand(4); barredAnew(0) = 0; barredAnew(0) = 0; barredAnew(0) = 0
                """);
        Runs.boundary(36, sentence + ": judging does nothing itself", BATCHES_OF_RIVALS,
                "sell(0, 4) = 6; 9 * barredAnew(1); recalls() = 0; versions() = 2; term(0) = 3", Scenes.OVERTHROW, "9 * barredAnew(0); recalls() = 1");
    }

    /** The last call that an object is used for judges what the 511 before it have done. */
    private static void barredAnewAtTheEnd() {
        String sentence = "An object is used for at most 512 calls";
        Runs.toTheEnd(36, sentence + ": the 511th unholds it", BATCHES_OF_RIVALS, Scenes.OVERTHROW + "barredAnew(0) = 1");
        Runs.toTheEnd(36, sentence + ": the 511th holds it again", BATCHES_OF_RIVALS + Scenes.OVERTHROW, Scenes.HELD_AGAIN + "barredAnew(0) = 0");
        Runs.toTheEnd(41, sentence + ": the 511th writes a recall", BATCHES_OF_RIVALS + "sell(0, 1) = 9\n", Scenes.OVERTHROW + "recallOf(0) = 0");
        Runs.toTheEnd(37, sentence + ": the 512th sells", TWO_BATCHES, "sell(1, 10) = 0");
    }

    // ---- promises 37 and 38

    private static void sellRanges() {
        Runs.range(37, "a batch", 0, 3, "sell(?, 1)", INDEX, BUSY, "sell(0, 1) = 9; sell(3, 1) = 39");
        Runs.range(37, "a batch, of 60", 0, 59, "sell(?, 1)", INDEX, SIXTY, "sell(0, 1) = 39; sell(59, 40) = 0");
        Runs.range(37, "count", 1, 40, "sell(3, ?)", ARGUMENT, BUSY, "sell(3, 40) = 0; sell(0, 1) = 9");
        Runs.boundary(37, "Returns how many are left.", TWO_BATCHES, "sell(0, 1) = 9; sell(0, 8) = 1; sell(0, 1) = 0; sell(1, 10) = 0");
    }

    private static void sellRefused() {
        String fewer = "or there are fewer left";
        Runs.boundary(37, fewer + ": one fewer", TWO_BATCHES, "sell(0, 11) = throws.IllegalStateException; left(0) = 10; sell(0, 10) = 0");
        Runs.boundary(37, fewer + ": none", TWO_BATCHES, "sell(0, 10) = 0; sell(0, 1) = throws.IllegalStateException; sell(0, 40) = throws.IllegalStateException; left(0) = 0");
        Runs.boundary(37, fewer + ": of 40, with 39 left", SIXTY, "sell(59, 1) = 39; sell(59, 40) = throws.IllegalStateException; sell(59, 39) = 0");
        Runs.boundary(37, fewer + ": of the last one", Scenes.LEADER_0, Scenes.FLOUR_0, """
                propose(0, 0, 1, 1) = 0; tell(0, 1) = 1; tell(0, 2) = 1; book(0, 0, 0) = 0; pass(1) = 1; sell(0, 2) = throws.IllegalStateException
                sell(0, 1) = 0; sell(0, 1) = throws.IllegalStateException
                """);
        String barred = "IllegalStateException if it is barred";
        Runs.boundary(37, barred + ": UNHELD", BATCHES_OF_RIVALS, "sell(0, 1) = 9", Scenes.OVERTHROW,
                "sell(0, 1) = throws.IllegalStateException; left(0) = 9; recalls() = 1", Scenes.HELD_AGAIN, "sell(0, 1) = 8");
        Runs.boundary(37, barred + ": FLOUR", TWO_BATCHES, "condemn(0) = 0; sell(0, 1) = throws.IllegalStateException; left(0) = 10; recalls() = 0");
        Runs.boundary(37, barred + ": both, and fewer left", BATCHES_OF_RIVALS, "sell(0, 10) = 0; condemn(0) = 10", Scenes.OVERTHROW,
                "sell(0, 1) = throws.IllegalStateException; sell(1, 11) = throws.IllegalStateException");
        Runs.boundary(37, "IndexOutOfBoundsException if there is no such batch: none, and ahead of IllegalArgumentException", """
                sell(0, 1) = throws.IndexOutOfBoundsException; sell(0, 0) = throws.IndexOutOfBoundsException
                sell(-1, 41) = throws.IndexOutOfBoundsException; sell(60, -1) = throws.IndexOutOfBoundsException
                """);
        Runs.boundary(37, "IllegalArgumentException if count is out of range: ahead of IllegalStateException", TWO_BATCHES, """
                sell(0, 41) = throws.IllegalArgumentException; sell(0, 10) = 0; sell(0, 0) = throws.IllegalArgumentException
                sell(0, 41) = throws.IllegalArgumentException; condemn(0) = 10; sell(1, 0) = throws.IllegalArgumentException
                sell(1, 41) = throws.IllegalArgumentException; sell(0, -2147483648) = throws.IllegalArgumentException
                """);
    }

    private static void onSale() {
        String sentence = "how many loaves of all batches that are not barred are left";
        Runs.boundary(38, sentence + ": no batches", "onSale() = 0");
        Runs.boundary(38, sentence + ": all of them sold", TWO_BATCHES, "onSale() = 20; sell(0, 10) = 0; sell(1, 10) = 0; onSale() = 0");
        Runs.boundary(38, sentence + ": all of them barred", TWO_BATCHES, "condemn(0) = 0; onSale() = 0");
        Runs.boundary(38, sentence + ": 60 batches of 40", SIXTY, "onSale() = 2400; sell(59, 40) = 0; onSale() = 2360; sell(0, 1) = 39; onSale() = 2359");
        Runs.boundary(38, sentence + ": the first and the last", BUSY, "onSale() = 50; condemn(0) = 0; onSale() = 40; condemn(3) = 0; onSale() = 0");
        Runs.boundary(38, sentence + ": not held, then held again", BATCHES_OF_RIVALS, "sell(0, 1) = 9; onSale() = 19", Scenes.OVERTHROW,
                "onSale() = 0", Scenes.HELD_AGAIN, "onSale() = 19");
    }

    // ---- promises 39 and 40

    private static void traced() {
        Runs.range(39, "a lot", 0, 3, "traced(?)", INDEX, BUSY, "traced(0) = 1; traced(3) = 1; traced(2) = 2; traced(1) = 0");
        Runs.range(39, "a lot, of 16", 0, 15, "traced(?)", INDEX, HELD_0 + "16 * addLot(); deliver(0, 15, 2) = 2; book(0, 0, 0) = 0; pass(1) = 1",
                "traced(0) = 0; traced(15) = 1");
        Runs.boundary(39, "if there is no such lot: none", "traced(0) = throws.IndexOutOfBoundsException; addLot() = 0; traced(0) = 0");
        Runs.boundary(39, "how many batches have a lot: 60", SIXTY, "addLot() = 1; traced(0) = 60; traced(1) = 0");
        Runs.boundary(39, "how many batches have a lot: one with one bag of it", HELD_0, """
                2 * addLot(); deliver(0, 0, 1) = 1; deliver(0, 1, 1) = 2; traced(0) = 0; book(0, 0, 0) = 0; pass(1) = 1; traced(0) = 1
                traced(1) = 1; condemn(1) = 0; traced(1) = 1
                """);
    }

    private static void tracedAt() {
        Runs.range(40, "a lot", 0, 3, "tracedAt(?, 0)", INDEX, BUSY, "tracedAt(0, 0) = 0; tracedAt(3, 0) = 3");
        Runs.range(40, "place", 0, 1, "tracedAt(2, ?)", INDEX, BUSY, "tracedAt(2, 0) = 1; tracedAt(2, 1) = 2");
        Runs.range(40, "a lot, of 16", 0, 15, "tracedAt(?, 0)", INDEX, HELD_0 + """
                16 * addLot(); deliver(0, 15, 1) = 1; deliver(0, 0, 1) = 2; book(0, 0, 0) = 0; pass(1) = 1
                """, "tracedAt(0, 0) = 0; tracedAt(15, 0) = 0");
        Runs.range(40, "place, of 60", 0, 59, "tracedAt(0, ?)", INDEX, SIXTY, "tracedAt(0, 0) = 0; tracedAt(0, 59) = 59; tracedAt(0, 30) = 30");
        Runs.boundary(40, "or not so many batches have it: none", """
                tracedAt(0, 0) = throws.IndexOutOfBoundsException; addLot() = 0; tracedAt(0, 0) = throws.IndexOutOfBoundsException
                tracedAt(0, -1) = throws.IndexOutOfBoundsException
                """);
        Runs.boundary(40, "no such lot, and place is below 0", BUSY,
                "tracedAt(4, -1) = throws.IndexOutOfBoundsException; tracedAt(-1, -1) = throws.IndexOutOfBoundsException");
    }

    // ---- promises 41 to 44

    private static void recalls() {
        String sentence = "for each such batch with a loaf at least a recall is written";
        Runs.boundary(41, sentence + ": nothing was done", "recalls() = 0");
        Runs.boundary(41, sentence + ": nothing was called back", TWO_BATCHES, "sell(0, 1) = 9; recalls() = 0");
        Runs.boundary(41, sentence + ": none, by a lot", TWO_BATCHES, "condemn(0) = 0; recalls() = 0");
        Runs.boundary(41, sentence + ": none, by a version", BATCHES_OF_RIVALS, Scenes.OVERTHROW, "recalls() = 0");
        Runs.boundary(41, sentence + ": one of one batch, by a lot", TWO_BATCHES, "sell(1, 1) = 9; condemn(0) = 1; recalls() = 1; recallOf(0) = 1");
        Runs.boundary(41, sentence + ": one of one batch, by a version", BATCHES_OF_RIVALS, "sell(1, 1) = 9", Scenes.OVERTHROW,
                "recalls() = 1; recallOf(0) = 1; calledBack(0) = 1; why(0) = 1");
        Runs.boundary(41, sentence + ": all of 60 batches, by a lot", SIXTY, sales(1), "condemn(0) = 60; recalls() = 60",
                "recallOf(0) = 0; recallOf(59) = 59; calledBack(59) = 1; why(0) = 2; why(59) = 2");
        String sold = "which were sold and not called back before";
        Runs.boundary(41, sold + ": by a version, then by a lot", BATCHES_OF_RIVALS, "sell(0, 10) = 0", Scenes.OVERTHROW,
                "recalls() = 1; condemn(0) = 0; recalls() = 1");
        Runs.boundary(41, sold + ": by a lot, then by a version", BATCHES_OF_RIVALS, "sell(0, 10) = 0; condemn(0) = 10", Scenes.OVERTHROW, "recalls() = 1; why(0) = 2");
        Runs.boundary(41, sold + ": only those sold since", BATCHES_OF_RIVALS, "sell(0, 9) = 1", Scenes.OVERTHROW, Scenes.HELD_AGAIN,
                "sell(0, 1) = 0; condemn(0) = 1; recalls() = 2; calledBack(0) = 9; calledBack(1) = 1");
        Runs.boundary(41, "When a version that was held is not held any more: 3 have it, then 2", BATCHES_OF_RIVALS, "tell(0, 3) = 1; sell(0, 1) = 9",
                Scenes.LEADER_4, "tell(4, 1) = 1; recalls() = 0; tell(4, 2) = 1; recalls() = 1; tell(4, 3) = 1; recalls() = 1");
    }

    private static String sales(int count) {
        StringBuilder rows = new StringBuilder();
        for (int batch = 0; batch < 60; batch++) {
            rows.append("sell(").append(batch).append(", ").append(count).append(")\n");
        }
        return rows.toString();
    }

    /** 20 versions are lost at once, as many as a log has; of the last six batches were made, those of the last one first. */
    private static void recallsOfManyVersions() {
        StringBuilder proposals = new StringBuilder();
        for (int version = 0; version < 20; version++) {
            proposals.append("propose(0, ").append(version % 6).append(", 1, 10) = ").append(version).append('\n');
        }
        StringBuilder sales = new StringBuilder();
        for (int hour = 0; hour < 12; hour++) {
            int version = 19 - hour % 6;
            sales.append("book(0, %d, %d) = %d\n".formatted(hour, version % 6, version));
        }
        sales.append("pass(12) = 12\n");
        StringBuilder due = new StringBuilder();
        for (int batch = 0; batch < 12; batch++) {
            int recall = 2 * (5 - batch % 6) + batch / 6;
            sales.append("sell(%d, %d)\n".formatted(batch, 1 + batch % 9));
            due.append("recallOf(%d) = %d; calledBack(%d) = %d; why(%d) = 1\n".formatted(recall, batch, recall, 1 + batch % 9, recall));
        }
        Runs.boundary(41, "if several versions are concerned at once, by rising versions: 20", Scenes.LEADER_0, proposals.toString(), """
                tell(0, 1) = 20; 2 * stand(4); vote(2, 4) = true; vote(3, 4) = true; propose(4, 0, 1, 5) = 20
                2 * stand(0); vote(1, 0) = true; vote(2, 0) = true; tell(0, 2) = 20; addLot() = 0; deliver(0, 0, 20) = 20
                """, sales.toString(), Scenes.LEADER_4, "recalls() = 0; tell(4, 1) = 1; isHeld(0) = false; isHeld(19) = false; recalls() = 12",
                due.toString());
    }

    /** A version is lost and held again five times, with a loaf of each of 60 batches sold in between. */
    private static void recallsOfManyRounds() {
        StringBuilder rows = new StringBuilder(sales(1)).append(Scenes.OVERTHROW).append(Scenes.HELD_AGAIN);
        for (int round = 2; round <= 5; round++) {
            rows.append("recalls() = ").append(60 * round - 60).append('\n').append(sales(1)).append("""
                    propose(4, 1, 1, 1); 2 * stand(4); vote(1, 4) = true; vote(3, 4) = true; tell(4, 3); isHeld(0) = false
                    """);
            if (round < 5) {
                rows.append("propose(0, 1, 1, 1); 2 * stand(0); vote(2, 0) = true; vote(3, 0) = true; tell(0, 3); isHeld(0) = true\n");
            }
        }
        Runs.boundary(41, "how many recalls were written: 300", Scenes.RIVALS.replace("(0, 0, 2, 10)", "(0, 0, 1, 40)"),
                Scenes.FLOUR_0, "deliver(0, 0, 40) = 60", Scenes.books(0, 49, 0), "pass(50) = 50", Scenes.books(50, 59, 0), "pass(10) = 10",
                rows.toString(), """
                recalls() = 300; recallOf(0) = 0; recallOf(60) = 0; recallOf(299) = 59; recallOf(300) = throws.IndexOutOfBoundsException
                calledBack(299) = 1; calledBack(300) = throws.IndexOutOfBoundsException; why(299) = 1; why(300) = throws.IndexOutOfBoundsException
                left(0) = 35; left(59) = 35
                """);
    }

    private static void askRecalls() {
        recall(42, "recallOf", "1", "2", "0", "59");
        recall(43, "calledBack", "3", "1", "2", "2");
        recall(44, "why", "2", "2", "2", "2");
        Runs.boundary(43, "how many loaves were called back by a recall: 1, and 40", SIXTY, "sell(0, 40) = 0; sell(59, 1) = 39; condemn(0) = 41",
                "calledBack(0) = 40; calledBack(1) = 1");
        Runs.boundary(43, "how many loaves were called back by a recall: of several sales", TWO_BATCHES,
                "sell(0, 1) = 9; sell(0, 8) = 1; sell(0, 1) = 0; condemn(0) = 10; calledBack(0) = 10");
        Runs.boundary(44, "Returns UNHELD or FLOUR.", BATCHES_OF_RIVALS, "sell(0, 1) = 9", Scenes.OVERTHROW, Scenes.HELD_AGAIN,
                "sell(0, 1) = 8; condemn(0) = 1; why(0) = 1; why(1) = 2");
        // It is barred for both reasons then; one of them is why the loaves were called back.
        Runs.boundary(44, "Returns UNHELD or FLOUR: never both", BATCHES_OF_RIVALS, "sell(0, 1) = 9; condemn(0) = 1", Scenes.OVERTHROW,
                "barred(0) = 3; recalls() = 1; why(0) = 2");
        Runs.boundary(44, "Returns UNHELD or FLOUR: never both", BATCHES_OF_RIVALS, "sell(0, 1) = 9", Scenes.OVERTHROW,
                "condemn(0) = 0; barred(0) = 3; recalls() = 1; why(0) = 1");
    }

    /** The range of the recalls, of two and of 60, and a call without recalls. */
    private static void recall(int promise, String name, String first, String second, String firstOfSixty, String lastOfSixty) {
        Runs.range(promise, "recall, 0 for the first one", 0, 1, name + "(?)", INDEX, BUSY, name + "(0) = " + first + ";" + name + "(1) = " + second);
        Runs.range(promise, "recall, of 60", 0, 59, name + "(?)", INDEX, SIXTY + sales(2) + "condemn(0) = 120",
                name + "(0) = " + firstOfSixty + ";" + name + "(59) = " + lastOfSixty);
        Runs.boundary(promise, "if there is no such recall: none", TWO_BATCHES, name + "(0) = throws.IndexOutOfBoundsException",
                "sell(0, 1) = 9;" + name + "(0) = throws.IndexOutOfBoundsException; condemn(0) = 1;" + name + "(0)",
                name + "(1) = throws.IndexOutOfBoundsException");
    }
}
