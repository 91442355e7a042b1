/** Promises 19 to 30: flour and ovens. */
public final class BakingTest {
    private static final String HELD_0 = Scenes.HELD_0;
    private static final String FLOUR_0 = Scenes.FLOUR_0;

    public static void main(String[] args) {
        addLot();
        deliver();
        condemn();
        store();
        book();
        bookHours();
        renew();
        free();
        booked();
        stopped();
        pass();
        passInOrder();
        passWithoutRoom();
        passRefused();
        time();
        missed();
        Runs.end(19, 30);
    }

    private static void addLot() {
        Runs.promise(19, """
                addLot() = 0; traced(0) = 0; traced(1) = throws.IndexOutOfBoundsException; addLot() = 1; condemn(0) = 0
                addLot() = 2; 12 * addLot(); addLot() = 15
                addLot() = throws.IllegalStateException
                deliver(0, 15, 1) = 1; deliver(0, 16, 1) = throws.IndexOutOfBoundsException
                condemn(3) = 0; addLot() = throws.IllegalStateException
                """);
    }

    private static void deliver() {
        Runs.promise(20, """
                addLot() = 0; addLot() = 1; deliver(4, 0, 1) = 1; deliver(4, 1, 50) = 51; deliver(4, 0, 50) = 101
                deliver(4, 0, 50) = 151; deliver(4, 0, 50) = throws.IllegalStateException; deliver(4, 0, 49) = 200
                deliver(4, 0, 1) = throws.IllegalStateException
                deliver(3, 0, 50) = 50; store(4) = 200; store(3) = 50
                """);
        Runs.promise(20, """
                2 * addLot(); deliver(0, 0, 5) = 5; deliver(0, 1, 5) = 10; condemn(1) = 0
                deliver(-1, 0, 1) = throws.IndexOutOfBoundsException
                deliver(5, 0, 0) = throws.IndexOutOfBoundsException
                deliver(0, -1, 1) = throws.IndexOutOfBoundsException
                deliver(0, 2, 0) = throws.IndexOutOfBoundsException
                deliver(0, 0, 0) = throws.IllegalArgumentException
                deliver(0, 0, 51) = throws.IllegalArgumentException
                deliver(0, 0, -2147483648) = throws.IllegalArgumentException
                deliver(0, 0, 2147483647) = throws.IllegalArgumentException
                deliver(0, 1, 51) = throws.IllegalArgumentException
                deliver(0, 1, 1) = throws.IllegalStateException
                store(0) = 5
                """);
        // New bags come to the end: the first batch is of lots 1 and 0, the second of 0 alone, the third of 0 and 2.
        Runs.promise(20, HELD_0, """
                3 * addLot(); deliver(0, 1, 1) = 1; deliver(0, 0, 4) = 5; deliver(0, 2, 1) = 6
                book(0, 0, 0); book(0, 1, 0); book(0, 2, 0); pass(3) = 3; lotsOf(0) = 3; lotsOf(1) = 1; lotsOf(2) = 5; store(0) = 0
                """);
    }

    private static void condemn() {
        // Bags are thrown out of all stores, and the others keep their order.
        Runs.promise(21, HELD_0, """
                4 * addLot(); deliver(0, 3, 1) = 1; deliver(0, 0, 2) = 3; deliver(0, 1, 1) = 4; deliver(0, 0, 1) = 5
                deliver(0, 2, 2) = 7; deliver(2, 0, 9) = 9; deliver(1, 1, 4) = 4; condemn(0) = 0
                store(0) = 4; store(2) = 0; store(1) = 4; book(0, 0, 0); book(0, 1, 0); pass(2) = 2
                lotsOf(0) = 10; lotsOf(1) = 4; store(0) = 0
                """);
        Runs.promise(21, Scenes.TWO_BATCHES, """
                sell(0, 3) = 7; sell(1, 10) = 0; sell(0, 1) = 6; condemn(0) = 14; recalls() = 2; store(0) = 0
                condemn(0) = throws.IllegalStateException
                condemn(1) = throws.IndexOutOfBoundsException
                condemn(-1) = throws.IndexOutOfBoundsException
                condemn(16) = throws.IndexOutOfBoundsException
                recalls() = 2
                """);
        // Only batches with that lot, and only loaves that were not called back before.
        Runs.promise(21, HELD_0, """
                3 * addLot(); deliver(0, 0, 1) = 1; deliver(0, 1, 3) = 4; deliver(0, 2, 2) = 6
                book(0, 0, 0); book(0, 1, 0); book(0, 2, 0); pass(3) = 3; sell(0, 4) = 6; sell(1, 5) = 5; sell(2, 6) = 4
                condemn(0) = 4; condemn(1) = 5; condemn(2) = 6; recalls() = 3; onSale() = 0
                """);
        Runs.promise(21, "addLot() = 0; condemn(0) = 0; recalls() = 0; condemn(0) = throws.IllegalStateException");
        Runs.promise(21, Scenes.RIVALS, FLOUR_0, "book(0, 0, 0) = 0; pass(1) = 1; sell(0, 4) = 6", Scenes.OVERTHROW,
                "recalls() = 1; condemn(0) = 0; recalls() = 1; barred(0) = 3");
    }

    private static void store() {
        Runs.promise(22, HELD_0, FLOUR_0, """
                store(0) = 20; store(1) = 0; book(0, 0, 0) = 0; pass(1) = 1; store(0) = 18; pass(1) = 0; store(0) = 18
                condemn(0) = 0; store(0) = 0
                store(-1) = throws.IndexOutOfBoundsException
                store(5) = throws.IndexOutOfBoundsException
                """);
    }

    private static void book() {
        Runs.promise(23, HELD_0, """
                propose(0, 4, 1, 1) = 1; tell(0, 1) = 1; book(0, 3, 0) = 0; tell(0, 2) = 1; book(0, 4, 4) = 1; book(2, 3, 4) = 1
                propose(0, 0, 1, 1) = 2; tell(0, 1) = 1; tell(0, 2) = 1; book(1, 3, 0) = 2; booked(0, 3) = 0; booked(0, 4) = 1
                book(0, 3, 0) = throws.IllegalStateException
                book(0, 3, 1) = throws.IllegalStateException
                book(0, 5, 1) = throws.IllegalStateException
                book(3, 5, 0) = throws.IllegalStateException
                book(0, -1, 6) = throws.IndexOutOfBoundsException
                book(0, 0, -1) = throws.IndexOutOfBoundsException
                book(5, 0, 0) = throws.IndexOutOfBoundsException
                book(-1, 99, 0) = throws.IndexOutOfBoundsException
                book(0, -1, 0) = throws.IllegalArgumentException
                book(0, 51, 0) = throws.IllegalArgumentException
                book(3, 51, 0) = throws.IllegalArgumentException
                book(0, 2147483647, 0) = throws.IllegalArgumentException
                book(0, -2147483648, 0) = throws.IllegalArgumentException
                """);
        // A stopped slot is booked all the same.
        Runs.promise(23, Scenes.RIVALS, "book(2, 7, 0) = 0", Scenes.OVERTHROW, """
                stopped() = 1; book(2, 8, 0) = throws.IllegalStateException; tell(4, 2) = 1
                book(2, 7, 0) = throws.IllegalStateException; book(2, 8, 0) = 1; booked(2, 7) = 0
                """);
    }

    private static void bookHours() {
        Runs.promise(23, HELD_0, """
                book(0, 0, 0) = 0; book(0, 50, 0) = 0; book(0, 51, 0) = throws.IllegalArgumentException; pass(1) = 0
                book(0, 0, 0) = throws.IllegalArgumentException; booked(0, 51) = -1; book(0, 51, 0) = 0; booked(0, 50) = 0
                book(0, 1, 0) = 0; pass(50) = 0; missed(0) = 3; booked(0, 51) = 0; book(0, 52, 0) = 0; book(0, 101, 0) = 0
                book(0, 50, 0) = throws.IllegalArgumentException; book(0, 102, 0) = throws.IllegalArgumentException
                """);
        // The time ends at 1000, the slots end 50 hours later.
        Runs.promise(23, HELD_0, FLOUR_0, """
                20 * pass(50) = 0; time() = 1000; book(0, 1000, 0) = 0; book(0, 1050, 0) = 0
                book(0, 1051, 0) = throws.IllegalArgumentException; book(0, 999, 0) = throws.IllegalArgumentException
                booked(0, 1000) = 0; booked(0, 1050) = 0; booked(0, 1001) = -1; free(0, 1050) = 0; renew(0, 1000) = 0
                """);
    }

    private static void renew() {
        Runs.promise(24, HELD_0, """
                book(0, 5, 0) = 0; book(0, 50, 0) = 0; renew(0, 5) = 0; propose(0, 1, 1, 1) = 1; propose(0, 0, 1, 1) = 2
                renew(0, 5) = 0; tell(0, 1) = 2; tell(0, 2) = 2; booked(0, 5) = 0; renew(0, 5) = 2; booked(0, 5) = 2
                booked(0, 50) = 0; renew(0, 50) = 2
                renew(0, 6) = throws.IllegalStateException
                renew(1, 5) = throws.IllegalStateException
                renew(0, -1) = throws.IllegalArgumentException
                renew(0, 51) = throws.IllegalArgumentException
                renew(5, 51) = throws.IndexOutOfBoundsException
                renew(-1, 5) = throws.IndexOutOfBoundsException
                """);
        // Without a current version it stays as it is; with one that is another, a stopped slot goes on.
        Runs.promise(24, Scenes.RIVALS, "book(2, 3, 0) = 0; book(0, 3, 0) = 0", Scenes.OVERTHROW, """
                stopped() = 2; renew(2, 3) = throws.IllegalStateException; booked(2, 3) = 0; tell(4, 2) = 1
                renew(2, 3) = 1; booked(2, 3) = 1; stopped() = 1; renew(0, 3) = throws.IllegalStateException; booked(0, 3) = 0
                """);
        Runs.promise(24, HELD_0, "book(0, 2, 0) = 0; pass(3) = 0; renew(0, 2) = throws.IllegalArgumentException",
                "renew(0, 3) = throws.IllegalStateException; renew(0, 53) = throws.IllegalStateException");
    }

    private static void free() {
        Runs.promise(25, HELD_0, """
                book(1, 0, 0) = 0; book(1, 50, 0) = 0; free(1, 0) = 0; booked(1, 0) = -1; booked(1, 50) = 0
                free(1, 0) = throws.IllegalStateException
                free(0, 50) = throws.IllegalStateException
                free(1, -1) = throws.IllegalArgumentException
                free(1, 51) = throws.IllegalArgumentException
                free(5, 51) = throws.IndexOutOfBoundsException
                free(-1, 0) = throws.IndexOutOfBoundsException
                book(1, 0, 0) = 0; free(1, 50) = 0; pass(1) = 0; missed(1) = 1; free(1, 0) = throws.IllegalArgumentException
                """);
        Runs.promise(25, HELD_0, FLOUR_0, "book(0, 0, 0) = 0; free(0, 0) = 0; pass(1) = 0; missed(0) = 0; store(0) = 20");
        // A stopped slot can be freed; it is the version under which it was booked that is told.
        Runs.promise(25, Scenes.RIVALS, "book(2, 3, 0) = 0", Scenes.OVERTHROW, "tell(4, 2) = 1; free(2, 3) = 0; stopped() = 0");
    }

    private static void booked() {
        Runs.promise(26, HELD_0, """
                book(0, 0, 0) = 0; book(2, 50, 0) = 0; booked(0, 0) = 0; booked(2, 50) = 0; booked(0, 50) = -1; booked(2, 0) = -1
                booked(0, 1) = -1; booked(1, 0) = -1; booked(3, 49) = -1
                booked(0, -1) = throws.IllegalArgumentException
                booked(0, 51) = throws.IllegalArgumentException
                booked(0, 2147483647) = throws.IllegalArgumentException
                booked(0, -2147483648) = throws.IllegalArgumentException
                booked(5, 51) = throws.IndexOutOfBoundsException
                booked(-1, 0) = throws.IndexOutOfBoundsException
                pass(1) = 0; booked(0, 0) = throws.IllegalArgumentException; booked(0, 51) = -1; booked(2, 50) = 0
                booked(2, 52) = throws.IllegalArgumentException
                """);
    }

    private static void stopped() {
        Runs.promise(27, Scenes.RIVALS, "book(0, 0, 0) = 0; book(0, 50, 0) = 0; book(2, 1, 0) = 0; book(1, 2, 0) = 0; stopped() = 0",
                Scenes.OVERTHROW, "stopped() = 4; free(0, 50) = 0; stopped() = 3; pass(1) = 0; stopped() = 2; pass(1) = 0",
                "stopped() = 1; pass(1) = 0; stopped() = 0; missed(0) = 1; missed(2) = 1; missed(1) = 1");
        Runs.promise(27, Scenes.RIVALS, "book(0, 5, 0) = 0; book(1, 5, 0) = 0", Scenes.OVERTHROW, "stopped() = 2",
                Scenes.HELD_AGAIN, "stopped() = 0; booked(1, 5) = 0");
        Runs.promise(27, HELD_0, "book(0, 0, 0) = 0; part(1) = 4; stopped() = 0");
    }

    private static void pass() {
        Runs.promise(28, HELD_0, FLOUR_0, """
                book(0, 0, 0) = 0; book(0, 2, 0) = 0; book(0, 49, 0) = 0; book(0, 50, 0) = 0; pass(2) = 1; time() = 2
                batches() = 1; pass(50) = 3; time() = 52; batches() = 4; store(0) = 12; missed(0) = 0
                """);
        // Too few bags; just enough bags.
        Runs.promise(28, HELD_0, """
                addLot() = 0; deliver(0, 0, 3) = 3; book(0, 0, 0) = 0; book(0, 1, 0) = 0; pass(1) = 1; pass(1) = 0
                missed(0) = 1; store(0) = 1; deliver(0, 0, 1) = 2; book(0, 2, 0) = 0; pass(1) = 1; store(0) = 0
                """);
        // A full store.
        Runs.promise(28, HELD_0, """
                addLot() = 0; addLot() = 1; 3 * deliver(0, 0, 50); deliver(0, 0, 49) = 199; deliver(0, 1, 1) = 200; book(0, 0, 0) = 0
                pass(1) = 1; store(0) = 198; deliver(0, 0, 2) = 200; condemn(0) = 0; store(0) = 1; deliver(0, 1, 50) = 51
                """);
        // Stopped, then not any more.
        Runs.promise(28, Scenes.RIVALS, FLOUR_0, "book(0, 0, 0) = 0; book(0, 1, 0) = 0; book(0, 2, 0) = 0; pass(1) = 1",
                Scenes.OVERTHROW, "pass(1) = 0; missed(0) = 1; store(0) = 18", Scenes.HELD_AGAIN, "pass(1) = 1; store(0) = 16");
        // The slot keeps its version, whichever is current by then.
        Runs.promise(28, HELD_0, FLOUR_0, """
                book(0, 0, 0) = 0; propose(0, 0, 5, 33) = 1; tell(0, 1) = 1; tell(0, 2) = 1; book(0, 1, 0) = 1; pass(2) = 2
                versionOf(0) = 0; left(0) = 10; versionOf(1) = 1; left(1) = 33; store(0) = 13
                """);
        // So it does if its own log has lost it, while others hold it.
        Runs.promise(28, Scenes.RIVALS, FLOUR_0, "tell(0, 3) = 1; book(0, 0, 0) = 0; book(0, 1, 0) = 0", Scenes.LEADER_4, """
                tell(4, 0) = 1; holders(0) = 14; current(0, 0) = -1; stopped() = 0; renew(0, 0) = throws.IllegalStateException
                pass(1) = 1; versionOf(0) = 0; barred(0) = 0
                """);
    }

    private static void passInOrder() {
        // Hour by hour, and in each by rising numbers of bakeries.
        Runs.promise(28, HELD_0, """
                addLot() = 0; addLot() = 1; addLot() = 2; deliver(0, 0, 4) = 4; deliver(1, 1, 4) = 4; deliver(2, 2, 4) = 4
                book(2, 0, 0) = 0; book(1, 1, 0) = 0; book(0, 1, 0) = 0; book(1, 0, 0) = 0; pass(3) = 4
                lotsOf(0) = 2; lotsOf(1) = 4; lotsOf(2) = 1; lotsOf(3) = 2
                """);
    }

    private static void passWithoutRoom() {
        Runs.promise(28, Scenes.LEADER_0, """
                propose(0, 0, 1, 1) = 0; tell(0, 1) = 1; tell(0, 2) = 1; addLot() = 0; deliver(0, 0, 50) = 50; deliver(0, 0, 50) = 100
                deliver(1, 0, 9) = 9
                """, Scenes.books(0, 49, 0), "pass(50) = 50", Scenes.books(50, 60, 0), """
                book(1, 59, 0) = 0; pass(11) = 10; batches() = 60; missed(0) = 1; missed(1) = 1; store(0) = 40; store(1) = 9
                left(59) = 1; left(60) = throws.IndexOutOfBoundsException; book(0, 61, 0) = 0; pass(1) = 0; missed(0) = 2
                traced(0) = 60; tracedAt(0, 59) = 59; onSale() = 60; stopped() = 0
                """);
    }

    private static void passRefused() {
        Runs.promise(28, HELD_0, FLOUR_0, """
                book(0, 0, 0) = 0
                pass(0) = throws.IllegalArgumentException
                pass(51) = throws.IllegalArgumentException
                pass(-1) = throws.IllegalArgumentException
                pass(2147483647) = throws.IllegalArgumentException
                pass(-2147483648) = throws.IllegalArgumentException
                time() = 0; pass(1) = 1
                19 * pass(50) = 0; time() = 951; pass(50) = throws.IllegalStateException; book(0, 999, 0) = 0
                pass(49) = 1; time() = 1000; pass(1) = throws.IllegalStateException; pass(51) = throws.IllegalArgumentException
                pass(0) = throws.IllegalArgumentException; time() = 1000
                """);
    }

    private static void time() {
        Runs.promise(29, "time() = 0; pass(1) = 0; time() = 1; pass(50) = 0; time() = 51; 18 * pass(50); time() = 951; pass(49) = 0",
                "time() = 1000; pass(1) = throws.IllegalStateException; time() = 1000");
    }

    private static void missed() {
        Runs.promise(30, HELD_0, """
                book(0, 0, 0) = 0; book(1, 0, 0) = 0; book(0, 1, 0) = 0; missed(0) = 0; pass(1) = 0; missed(0) = 1; missed(1) = 1
                pass(5) = 0; missed(0) = 2; missed(1) = 1; missed(2) = 0; missed(4) = 0
                missed(-1) = throws.IndexOutOfBoundsException
                missed(5) = throws.IndexOutOfBoundsException
                """);
        Runs.promise(30, HELD_0, FLOUR_0, "book(0, 0, 0) = 0; pass(2) = 1; missed(0) = 0");
    }
}
