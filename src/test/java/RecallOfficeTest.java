/** Promises 31 to 44: batches and recalls. */
public final class RecallOfficeTest {
    private static final String HELD_0 = Scenes.HELD_0;
    private static final String TWO_BATCHES = Scenes.TWO_BATCHES;

    /** After RIVALS: batches 0 and 1 of version 0, each of 10 loaves, of lot 0. */
    private static final String BATCHES_OF_RIVALS = Scenes.RIVALS + Scenes.FLOUR_0
            + "book(0, 0, 0) = 0; book(0, 1, 0) = 0; pass(2) = 2\n";

    /** After PAIR_OF_RIVALS: batches 0 and 2 of version 1, batches 1 and 3 of version 0. */
    private static final String BATCHES_OF_PAIR = Scenes.PAIR_OF_RIVALS + Scenes.FLOUR_0
            + "book(0, 0, 1) = 1; book(0, 1, 0) = 0; book(0, 2, 1) = 1; book(0, 3, 0) = 0; pass(4) = 4\n";

    public static void main(String[] args) {
        batches();
        versionOf();
        lotsOf();
        left();
        barred();
        barredAnew();
        sell();
        onSale();
        traced();
        tracedAt();
        recallsOfVersions();
        recallsOfLots();
        recallsOfAllBatches();
        recallOf();
        calledBack();
        why();
        Runs.end(31, 44);
    }

    private static String noSuch(String call) {
        return """
                CALL(-1) = throws.IndexOutOfBoundsException
                CALL(2) = throws.IndexOutOfBoundsException
                CALL(60) = throws.IndexOutOfBoundsException
                CALL(512) = throws.IndexOutOfBoundsException
                CALL(2147483647) = throws.IndexOutOfBoundsException
                CALL(-2147483648) = throws.IndexOutOfBoundsException
                """.replace("CALL", call);
    }

    private static void batches() {
        Runs.promise(31, HELD_0, Scenes.FLOUR_0, """
                batches() = 0; book(0, 0, 0) = 0; book(1, 0, 0) = 0; batches() = 0; pass(1) = 1; batches() = 1; pass(1) = 0
                batches() = 1; condemn(0) = 0; batches() = 1
                """);
    }

    private static void versionOf() {
        Runs.promise(32, TWO_BATCHES, "versionOf(0) = 0; versionOf(1) = 0", noSuch("versionOf"));
        Runs.promise(32, BATCHES_OF_PAIR, "versionOf(0) = 1; versionOf(1) = 0; versionOf(2) = 1; versionOf(3) = 0",
                "versionOf(4) = throws.IndexOutOfBoundsException");
    }

    private static void lotsOf() {
        Runs.promise(33, HELD_0, """
                16 * addLot(); deliver(0, 15, 1) = 1; deliver(0, 0, 3) = 4; book(0, 0, 0) = 0; book(0, 1, 0) = 0; pass(2) = 2
                lotsOf(0) = 32769; lotsOf(1) = 1; condemn(15) = 0; lotsOf(0) = 32769
                """, noSuch("lotsOf"));
        // Nine bags, of nine lots.
        Runs.promise(33, Scenes.LEADER_0, """
                propose(0, 0, 9, 1) = 0; tell(0, 1) = 1; tell(0, 2) = 1; 10 * addLot()
                deliver(1, 9, 1) = 1; deliver(1, 8, 1) = 2; deliver(1, 7, 1) = 3; deliver(1, 6, 1) = 4; deliver(1, 5, 1) = 5
                deliver(1, 4, 1) = 6; deliver(1, 3, 1) = 7; deliver(1, 2, 1) = 8; deliver(1, 1, 1) = 9; deliver(1, 0, 1) = 10
                book(1, 0, 0) = 0; pass(1) = 1; lotsOf(0) = 1022; store(1) = 1
                """);
    }

    private static void left() {
        Runs.promise(34, TWO_BATCHES, "left(0) = 10; sell(0, 4) = 6; left(0) = 6; left(1) = 10; sell(0, 6) = 0; left(0) = 0",
                noSuch("left"));
        // Those that were called back were sold.
        Runs.promise(34, TWO_BATCHES, "sell(0, 4) = 6; condemn(0) = 4; left(0) = 6; left(1) = 10");
        Runs.promise(34, BATCHES_OF_RIVALS, "sell(0, 4) = 6", Scenes.OVERTHROW, "left(0) = 6", Scenes.HELD_AGAIN,
                "left(0) = 6; sell(0, 6) = 0; left(0) = 0");
    }

    private static void barred() {
        Runs.promise(35, BATCHES_OF_RIVALS, "barred(0) = 0; barred(1) = 0", Scenes.OVERTHROW, "barred(0) = 1; barred(1) = 1",
                "condemn(0) = 0; barred(0) = 3; barred(1) = 3", Scenes.HELD_AGAIN, "barred(0) = 2; barred(1) = 2", noSuch("barred"));
        // One of its lots is enough, and none of the others counts.
        Runs.promise(35, HELD_0, """
                3 * addLot(); deliver(0, 0, 1) = 1; deliver(0, 1, 2) = 3; deliver(0, 2, 1) = 4; book(0, 0, 0) = 0
                book(0, 1, 0) = 0; pass(2) = 2; condemn(2) = 0; barred(0) = 0; barred(1) = 2; condemn(0) = 0; barred(0) = 2
                """);
    }

    private static void barredAnew() {
        Runs.promise(36, BATCHES_OF_RIVALS, "barredAnew(0) = 0; barredAnew(1) = 0", Scenes.OVERTHROW, """
                barredAnew(0) = 1; barredAnew(1) = 1; condemn(0) = 0; barredAnew(0) = 3; barredAnew(1) = 3
                """, Scenes.HELD_AGAIN, "barredAnew(0) = 2; barredAnew(1) = 2; barredAnew(0) = 2", noSuch("barredAnew"));
        // Judging changes nothing, and refused calls are not done once more.
        Runs.promise(36, HELD_0, Scenes.FLOUR_0, """
                book(0, 0, 0) = 0; pass(1) = 1; barredAnew(0) = 0; part(7) = 6; tell(0, 4) = throws.IllegalStateException
                stand(5) = throws.IndexOutOfBoundsException; part(32) = throws.IllegalArgumentException
                propose(1, 0, 1, 1) = throws.IllegalStateException; vote(0, 0) = throws.IllegalArgumentException
                barredAnew(0) = 0; part(0) = 0; tell(0, 4) = 1; barredAnew(0) = 0; role(0) = 2; versions() = 1; holders(0) = 23
                """);
        // A leader of a lesser term than the one that it tells puts nothing anywhere, done once more, too.
        Runs.promise(36, BATCHES_OF_RIVALS, "tell(4, 1) = -1; barredAnew(0) = 0; barredAnew(0) = 0; barred(0) = 0");
        // Each time it begins with a new object's terms.
        Runs.promise(36, Scenes.LEADER_0, Scenes.FLOUR_0, """
                propose(0, 0, 1, 1) = 0; tell(0, 3) = 1; tell(0, 4) = 1; book(0, 0, 0) = 0; pass(1) = 1
                9 * stand(3); 9 * stand(4); barredAnew(0) = 0; barredAnew(0) = 0; barredAnew(0) = 0
                """);
        // As many calls as an object takes.
        Runs.promise(36, BATCHES_OF_RIVALS, "sell(0, 4) = 6; 230 * part(3) = 6; 210 * part(0) = 0", Scenes.OVERTHROW,
                "barredAnew(0) = 1", Scenes.HELD_AGAIN, "barredAnew(0) = 0; barred(0) = 0");
    }

    private static void sell() {
        Runs.promise(37, TWO_BATCHES, """
                sell(0, 1) = 9; sell(0, 9) = 0; sell(1, 10) = 0
                sell(0, 1) = throws.IllegalStateException
                sell(1, 40) = throws.IllegalStateException
                """);
        Runs.promise(37, TWO_BATCHES, """
                sell(0, 3) = 7
                sell(-1, 1) = throws.IndexOutOfBoundsException
                sell(2, 0) = throws.IndexOutOfBoundsException
                sell(0, 0) = throws.IllegalArgumentException
                sell(0, 41) = throws.IllegalArgumentException
                sell(0, -1) = throws.IllegalArgumentException
                sell(0, -2147483648) = throws.IllegalArgumentException
                sell(0, 2147483647) = throws.IllegalArgumentException
                sell(0, 8) = throws.IllegalStateException
                sell(0, 40) = throws.IllegalStateException
                sell(0, 7) = 0; condemn(0) = 10
                sell(1, 1) = throws.IllegalStateException
                sell(1, 41) = throws.IllegalArgumentException
                left(1) = 10
                """);
        Runs.promise(37, BATCHES_OF_RIVALS, "sell(0, 4) = 6", Scenes.OVERTHROW, "sell(0, 1) = throws.IllegalStateException",
                "sell(1, 1) = throws.IllegalStateException; sell(0, 0) = throws.IllegalArgumentException", Scenes.HELD_AGAIN,
                "sell(0, 1) = 5; sell(1, 10) = 0");
        // 40 at once.
        Runs.promise(37, Scenes.LEADER_0, Scenes.FLOUR_0, """
                propose(0, 0, 1, 40) = 0; tell(0, 1) = 1; tell(0, 2) = 1; book(0, 0, 0) = 0; pass(1) = 1; sell(0, 40) = 0
                condemn(0) = 40
                """);
    }

    private static void onSale() {
        Runs.promise(38, TWO_BATCHES, "onSale() = 20; sell(0, 3) = 7; onSale() = 17; sell(1, 10) = 0; onSale() = 7; condemn(0) = 13",
                "onSale() = 0");
        Runs.promise(38, BATCHES_OF_RIVALS, "sell(0, 4) = 6; onSale() = 16", Scenes.OVERTHROW, "onSale() = 0", Scenes.HELD_AGAIN,
                "onSale() = 16");
        Runs.promise(38, HELD_0, """
                2 * addLot(); deliver(0, 0, 2) = 2; deliver(0, 1, 2) = 4; book(0, 0, 0) = 0; book(0, 1, 0) = 0; pass(2) = 2
                sell(1, 3) = 7; condemn(0) = 0; onSale() = 7
                """);
    }

    private static void traced() {
        Runs.promise(39, HELD_0, """
                3 * addLot(); deliver(0, 1, 3) = 3; deliver(0, 2, 3) = 6; traced(1) = 0; book(0, 0, 0) = 0; book(0, 1, 0) = 0
                book(0, 2, 0) = 0; pass(3) = 3; traced(0) = 0; traced(1) = 2; traced(2) = 2; condemn(2) = 0; traced(2) = 2
                traced(3) = throws.IndexOutOfBoundsException
                traced(-1) = throws.IndexOutOfBoundsException
                traced(16) = throws.IndexOutOfBoundsException
                traced(32) = throws.IndexOutOfBoundsException
                """);
    }

    private static void tracedAt() {
        Runs.promise(40, HELD_0, """
                3 * addLot(); deliver(0, 1, 3) = 3; deliver(0, 2, 2) = 5; deliver(0, 1, 1) = 6; book(0, 0, 0) = 0
                book(0, 1, 0) = 0; book(0, 2, 0) = 0; pass(3) = 3
                tracedAt(1, 0) = 0; tracedAt(1, 1) = 1; tracedAt(1, 2) = 2; tracedAt(2, 0) = 1; tracedAt(2, 1) = 2
                tracedAt(1, 3) = throws.IndexOutOfBoundsException
                tracedAt(2, 2) = throws.IndexOutOfBoundsException
                tracedAt(0, 0) = throws.IndexOutOfBoundsException
                tracedAt(1, -1) = throws.IndexOutOfBoundsException
                tracedAt(1, -2147483648) = throws.IndexOutOfBoundsException
                tracedAt(1, 2147483647) = throws.IndexOutOfBoundsException
                tracedAt(3, 0) = throws.IndexOutOfBoundsException
                tracedAt(-1, 0) = throws.IndexOutOfBoundsException
                tracedAt(65, 0) = throws.IndexOutOfBoundsException
                tracedAt(-63, 0) = throws.IndexOutOfBoundsException
                condemn(1) = 0; tracedAt(1, 2) = 2
                """);
    }

    private static void recallsOfVersions() {
        // For each batch with a loaf at least, by rising numbers.
        Runs.promise(41, BATCHES_OF_RIVALS, "sell(1, 2) = 8; sell(0, 4) = 6; recalls() = 0", Scenes.OVERTHROW, """
                recalls() = 2; recallOf(0) = 0; calledBack(0) = 4; why(0) = 1; recallOf(1) = 1; calledBack(1) = 2; why(1) = 1
                tell(4, 2) = 1; recalls() = 2
                """);
        Runs.promise(41, BATCHES_OF_RIVALS, "sell(1, 2) = 8", Scenes.OVERTHROW, "recalls() = 1; recallOf(0) = 1; calledBack(0) = 2");
        Runs.promise(41, BATCHES_OF_RIVALS, Scenes.OVERTHROW, "recalls() = 0");
        // Again, when it was held again and loaves were sold in between.
        Runs.promise(41, BATCHES_OF_RIVALS, "sell(0, 4) = 6", Scenes.OVERTHROW, Scenes.HELD_AGAIN, """
                recalls() = 1; sell(0, 5) = 1; sell(1, 1) = 9; 2 * stand(4); vote(1, 4) = true; vote(3, 4) = true; role(4) = 2
                tell(4, 3) = 1; isHeld(0) = false; recalls() = 3; recallOf(1) = 0; calledBack(1) = 5; recallOf(2) = 1
                calledBack(2) = 1; left(0) = 1
                """);
        // A version that four hold may lose one.
        Runs.promise(41, BATCHES_OF_RIVALS, "tell(0, 3) = 1; sell(0, 4) = 6", Scenes.LEADER_4, """
                tell(4, 1) = 1; isHeld(0) = true; recalls() = 0; barred(0) = 0; tell(4, 2) = 1; isHeld(0) = false; recalls() = 1
                """);
        // Two versions at once: by rising versions, then by rising batches.
        for (int promise = 41; promise <= 44; promise++) {
            Runs.promise(promise, BATCHES_OF_PAIR, "sell(0, 1) = 9; sell(1, 2) = 8; sell(2, 3) = 7; sell(3, 4) = 6",
                    Scenes.LEADER_4, """
                    recalls() = 0; tell(4, 2) = 1; isHeld(0) = false; isHeld(1) = false; recalls() = 4
                    recallOf(0) = 1; recallOf(1) = 3; recallOf(2) = 0; recallOf(3) = 2
                    calledBack(0) = 2; calledBack(1) = 4; calledBack(2) = 1; calledBack(3) = 3
                    why(0) = 1; why(1) = 1; why(2) = 1; why(3) = 1; condemn(0) = 0; recalls() = 4
                    """);
        }
    }

    private static void recallsOfLots() {
        Runs.promise(41, TWO_BATCHES, "sell(1, 2) = 8; sell(0, 4) = 6; condemn(0) = 6; recalls() = 2; recallOf(0) = 0; recallOf(1) = 1");
        Runs.promise(41, TWO_BATCHES, "condemn(0) = 0; recalls() = 0");
        // Called back once, though two of its lots are condemned one after the other.
        Runs.promise(41, HELD_0, """
                2 * addLot(); deliver(0, 0, 1) = 1; deliver(0, 1, 1) = 2; book(0, 0, 0) = 0; pass(1) = 1; sell(0, 5) = 5
                condemn(1) = 5; condemn(0) = 0; recalls() = 1; barred(0) = 2; left(0) = 5
                """);
    }

    /** As many batches as there can be; the last one is concerned, too. */
    private static void recallsOfAllBatches() {
        String batches = Scenes.RIVALS.replace("(0, 0, 2, 10)", "(0, 0, 1, 10)") + Scenes.FLOUR_0 + "deliver(0, 0, 50) = 70\n"
                + Scenes.books(0, 49, 0) + "pass(50) = 50\n" + Scenes.books(50, 59, 0) + "pass(10) = 10; sell(59, 3) = 7\n";
        Runs.promise(41, batches, "sell(0, 1) = 9; tracedAt(0, 59) = 59; tracedAt(0, 60) = throws.IndexOutOfBoundsException",
                "condemn(0) = 4; recalls() = 2; recallOf(1) = 59; calledBack(1) = 3");
        Runs.promise(41, batches, Scenes.OVERTHROW, "recalls() = 1; recallOf(0) = 59; calledBack(0) = 3; onSale() = 0");
    }

    private static void recallOf() {
        Runs.promise(42, TWO_BATCHES, "sell(1, 2) = 8; sell(0, 1) = 9; recallOf(0) = throws.IndexOutOfBoundsException",
                "condemn(0) = 3; recallOf(0) = 0; recallOf(1) = 1", noSuch("recallOf"));
    }

    private static void calledBack() {
        Runs.promise(43, TWO_BATCHES, "sell(0, 4) = 6; sell(0, 1) = 5; sell(1, 2) = 8; calledBack(0) = throws.IndexOutOfBoundsException",
                "condemn(0) = 7; calledBack(0) = 5; calledBack(1) = 2", noSuch("calledBack"));
    }

    private static void why() {
        Runs.promise(44, TWO_BATCHES, "sell(0, 4) = 6; sell(1, 2) = 8; why(0) = throws.IndexOutOfBoundsException",
                "condemn(0) = 6; why(0) = 2; why(1) = 2", noSuch("why"));
        // Both reasons, one after the other, each with loaves of its own.
        Runs.promise(44, BATCHES_OF_RIVALS, "sell(0, 4) = 6", Scenes.OVERTHROW, Scenes.HELD_AGAIN,
                "sell(0, 1) = 5; condemn(0) = 1; recalls() = 2; why(0) = 1; why(1) = 2; calledBack(0) = 4; calledBack(1) = 1");
    }
}
