/**
 * Promises 19 to 30 at their bounds: each sentence of the document that names a boundary case has a run of its own, which
 * bears its words.
 */
public final class BakingBoundsTest {
    private static final String INDEX = "IndexOutOfBoundsException";
    private static final String ARGUMENT = "IllegalArgumentException";
    private static final String BUSY = Scenes.BUSY;
    private static final String HELD_0 = Scenes.HELD_0;
    private static final String FLOUR_0 = Scenes.FLOUR_0;

    /** The store of bakery 0 is full, of lot 0. */
    private static final String FULL_STORE = "2 * addLot(); 3 * deliver(0, 0, 50); deliver(0, 0, 50) = 200\n";

    /** The time is 1000. */
    private static final String END_OF_TIME = "19 * pass(50); pass(50) = 0; time() = 1000\n";

    private static final String HOUR = "hour, from the time of now to 50 hours later";

    public static void main(String[] args) {
        addLot();
        deliverRanges();
        deliverFull();
        deliverRefused();
        condemn();
        condemnRefused();
        store();
        bookRanges();
        bookRefused();
        renew();
        renewRefused();
        free();
        freeRefused();
        booked();
        stopped();
        stoppedInAll();
        passRanges();
        passBags();
        passFull();
        passRefused();
        time();
        missed();
        Runs.end(19, 30);
    }

    private static void bakery(int promise, String call, String scene, String inside) {
        Runs.range(promise, "bakery", 0, 4, call, INDEX, scene, inside);
    }

    // ---- promise 19

    private static void addLot() {
        Runs.boundary(19, "Lots of flour are numbered from 0", "addLot() = 0; addLot() = 1; deliver(0, 1, 1) = 1; deliver(0, 2, 1) = throws.IndexOutOfBoundsException");
        String sentence = "Throws IllegalStateException if there are 16";
        Runs.boundary(19, sentence, """
                15 * addLot(); traced(14) = 0; traced(15) = throws.IndexOutOfBoundsException; addLot() = 15; traced(15) = 0
                addLot() = throws.IllegalStateException; addLot() = throws.IllegalStateException; traced(16) = throws.IndexOutOfBoundsException
                """);
        Runs.boundary(19, sentence + ": also if all are condemned", """
                16 * addLot(); condemn(0) = 0; condemn(1) = 0; condemn(2) = 0; condemn(3) = 0; condemn(4) = 0; condemn(5) = 0
                condemn(6) = 0; condemn(7) = 0; condemn(8) = 0; condemn(9) = 0; condemn(10) = 0; condemn(11) = 0; condemn(12) = 0
                condemn(13) = 0; condemn(14) = 0; condemn(15) = 0; addLot() = throws.IllegalStateException
                """);
    }

    // ---- promise 20

    private static void deliverRanges() {
        bakery(20, "deliver(?, 0, 1)", BUSY, "deliver(0, 0, 1) = 20; deliver(4, 0, 1) = 1");
        Runs.range(20, "a lot", 0, 3, "deliver(0, ?, 1)", INDEX, BUSY, "deliver(0, 0, 1) = 20; deliver(0, 3, 1) = 21");
        Runs.range(20, "a lot, of 16", 0, 15, "deliver(3, ?, 1)", INDEX, "16 * addLot()", "deliver(3, 0, 1) = 1; deliver(3, 15, 1) = 2");
        Runs.range(20, "bags", 1, 50, "deliver(0, 0, ?)", ARGUMENT, BUSY, "deliver(0, 0, 1) = 20; deliver(0, 0, 50) = 70");
    }

    private static void deliverFull() {
        String sentence = "or the store would have more than 200 bags";
        Runs.boundary(20, sentence, "addLot() = 0; 3 * deliver(4, 0, 50); deliver(4, 0, 50) = 200; deliver(4, 0, 1) = throws.IllegalStateException",
                "deliver(4, 0, 50) = throws.IllegalStateException; store(4) = 200; deliver(3, 0, 50) = 50");
        Runs.boundary(20, sentence, """
                addLot() = 0; 3 * deliver(4, 0, 50); deliver(4, 0, 1) = 151; deliver(4, 0, 50) = throws.IllegalStateException
                deliver(4, 0, 49) = 200; deliver(4, 0, 1) = throws.IllegalStateException
                """);
        Runs.boundary(20, sentence, """
                2 * addLot(); 3 * deliver(4, 0, 50); deliver(4, 0, 49) = 199; deliver(4, 1, 2) = throws.IllegalStateException
                deliver(4, 1, 1) = 200; condemn(0) = 0; store(4) = 1
                """);
        Runs.boundary(20, sentence + ": each store has its own", """
                addLot() = 0; 4 * deliver(0, 0, 50); 4 * deliver(1, 0, 50); 4 * deliver(2, 0, 50); 4 * deliver(3, 0, 50); 3 * deliver(4, 0, 50)
                deliver(0, 0, 1) = throws.IllegalStateException; deliver(4, 0, 50) = 200; deliver(4, 0, 1) = throws.IllegalStateException
                """);
        // Room that a batch, or a lot that is condemned, has left.
        Runs.boundary(20, sentence + ": by now", HELD_0, FULL_STORE, """
                book(0, 0, 0) = 0; pass(1) = 1; store(0) = 198; deliver(0, 1, 3) = throws.IllegalStateException; deliver(0, 1, 2) = 200
                deliver(0, 1, 1) = throws.IllegalStateException; condemn(0) = 0; store(0) = 2; deliver(0, 1, 50) = 52
                """);
    }

    private static void deliverRefused() {
        Runs.boundary(20, "IndexOutOfBoundsException if there is no such bakery or lot: no lots", """
                deliver(0, 0, 1) = throws.IndexOutOfBoundsException; deliver(0, -1, 1) = throws.IndexOutOfBoundsException
                addLot() = 0; deliver(0, 0, 1) = 1
                """);
        Runs.boundary(20, "IndexOutOfBoundsException if there is no such bakery or lot: ahead of the others", FULL_STORE, """
                condemn(1) = 0; deliver(5, 0, 0) = throws.IndexOutOfBoundsException; deliver(-1, 0, 51) = throws.IndexOutOfBoundsException
                deliver(0, 2, 0) = throws.IndexOutOfBoundsException; deliver(0, 2, 1) = throws.IndexOutOfBoundsException
                deliver(0, -1, 51) = throws.IndexOutOfBoundsException; deliver(5, 1, 1) = throws.IndexOutOfBoundsException
                deliver(5, 2, 0) = throws.IndexOutOfBoundsException
                """);
        Runs.boundary(20, "IllegalArgumentException if bags is out of range: ahead of IllegalStateException", FULL_STORE, """
                deliver(0, 0, 0) = throws.IllegalArgumentException; deliver(0, 0, 51) = throws.IllegalArgumentException
                condemn(1) = 0; deliver(0, 1, 0) = throws.IllegalArgumentException; deliver(1, 1, 51) = throws.IllegalArgumentException
                deliver(0, 1, 2147483647) = throws.IllegalArgumentException
                """);
        Runs.boundary(20, "IllegalStateException if the lot is condemned", """
                2 * addLot(); condemn(0) = 0; deliver(2, 0, 1) = throws.IllegalStateException; store(2) = 0; deliver(2, 1, 1) = 1
                deliver(2, 0, 50) = throws.IllegalStateException; store(2) = 1
                """);
        Runs.boundary(20, "IllegalStateException if the lot is condemned: the last of 16",
                "16 * addLot(); condemn(15) = 0; deliver(2, 15, 1) = throws.IllegalStateException; deliver(2, 14, 1) = 1; deliver(2, 0, 1) = 2");
        Runs.boundary(20, "the lot is condemned, and the store would have more than 200 bags", FULL_STORE,
                "condemn(1) = 0; deliver(0, 1, 1) = throws.IllegalStateException; store(0) = 200");
    }

    // ---- promise 21

    private static void condemn() {
        Runs.range(21, "a lot", 0, 3, "condemn(?)", INDEX, BUSY, "condemn(0) = 0; store(0) = 19; condemn(3) = 0; store(0) = 0");
        Runs.range(21, "a lot, of 16", 0, 15, "condemn(?)", INDEX, "16 * addLot(); deliver(1, 15, 3) = 3; deliver(1, 0, 1) = 4",
                "condemn(0) = 0; store(1) = 3; condemn(15) = 0; store(1) = 0");
        String sentence = "its bags are thrown out of all stores";
        Runs.boundary(21, sentence + ": of empty ones", "addLot() = 0; condemn(0) = 0; store(0) = 0; store(4) = 0");
        Runs.boundary(21, sentence + ": of full ones", FULL_STORE, "4 * deliver(4, 0, 50); deliver(2, 1, 5) = 5; condemn(0) = 0",
                "store(0) = 0; store(4) = 0; store(2) = 5; deliver(0, 1, 50) = 50; deliver(4, 1, 50) = 50");
        Runs.boundary(21, sentence + ": none of full ones", FULL_STORE, "condemn(1) = 0; store(0) = 200");
        // The first bag, the last bag and one between go; what is left keeps its order.
        Runs.boundary(21, sentence + ": the first and the last", HELD_0, """
                4 * addLot(); deliver(0, 1, 1) = 1; deliver(0, 2, 1) = 2; deliver(0, 1, 1) = 3; deliver(0, 3, 2) = 5; deliver(0, 0, 1) = 6
                deliver(0, 1, 1) = 7; condemn(1) = 0; store(0) = 4; book(0, 0, 0) = 0; book(0, 1, 0) = 0; pass(2) = 2
                lotsOf(0) = 12; lotsOf(1) = 9
                """);
        String back = "Returns how many loaves are called back by that.";
        Runs.boundary(21, back + " No batches", "addLot() = 0; condemn(0) = 0; recalls() = 0");
        Runs.boundary(21, back + " No loaf sold", Scenes.TWO_BATCHES, "condemn(0) = 0; recalls() = 0; barred(0) = 2; barred(1) = 2");
        Runs.boundary(21, back + " One", Scenes.TWO_BATCHES, "sell(1, 1) = 9; condemn(0) = 1; recalls() = 1");
        Runs.boundary(21, back + " All", Scenes.TWO_BATCHES, "sell(0, 10) = 0; sell(1, 10) = 0; condemn(0) = 20; recalls() = 2; left(0) = 0");
        Runs.boundary(21, back + " Not those of other lots", BUSY, "sell(0, 10) = 0; sell(3, 40) = 0; condemn(1) = 0; condemn(0) = 10; condemn(3) = 40");
    }

    private static void condemnRefused() {
        Runs.boundary(21, "IndexOutOfBoundsException if there is no such lot: none",
                "condemn(0) = throws.IndexOutOfBoundsException; condemn(-1) = throws.IndexOutOfBoundsException; addLot() = 0; condemn(0) = 0");
        Runs.boundary(21, "IllegalStateException if it is condemned", Scenes.TWO_BATCHES, """
                sell(0, 4) = 6; condemn(0) = 4; condemn(0) = throws.IllegalStateException; recalls() = 1; addLot() = 1; condemn(1) = 0
                condemn(1) = throws.IllegalStateException; condemn(0) = throws.IllegalStateException; condemn(2) = throws.IndexOutOfBoundsException
                """);
        Runs.boundary(21, "IllegalStateException if it is condemned: the last of 16", "16 * addLot(); condemn(15) = 0; condemn(15) = throws.IllegalStateException");
    }

    // ---- promise 22

    private static void store() {
        bakery(22, "store(?)", BUSY, "store(0) = 19; store(4) = 0; deliver(4, 0, 7) = 7; store(4) = 7");
        Runs.boundary(22, "how many bags the store has: none, and 200", FULL_STORE,
                "store(0) = 200; store(1) = 0; store(4) = 0; deliver(0, 0, 1) = throws.IllegalStateException; store(0) = 200");
        Runs.boundary(22, "how many bags the store has: all were taken", HELD_0,
                "addLot() = 0; deliver(0, 0, 2) = 2; book(0, 0, 0) = 0; pass(1) = 1; store(0) = 0; deliver(0, 0, 1) = 1; store(0) = 1");
    }

    // ---- promise 23

    private static void bookRanges() {
        bakery(23, "book(?, 5, 0)", BUSY, "book(0, 5, 0) = 0; tell(0, 4) = 2; book(4, 5, 0) = 0");
        Runs.range(23, "recipe", 0, 5, "book(0, 5, ?)", INDEX, BUSY, "book(0, 5, 0) = 0; book(0, 6, 5) = 1");
        Runs.range(23, HOUR, 4, 54, "book(1, ?, 0)", ARGUMENT, BUSY,
                "book(1, 4, 0) = 0; book(1, 54, 0) = 0; booked(1, 5) = -1; booked(1, 53) = -1");
        Runs.range(23, HOUR + "; of a new object", 0, 50, "book(0, ?, 0)", ARGUMENT, HELD_0, "book(0, 0, 0) = 0; book(0, 50, 0) = 0");
        Runs.range(23, HOUR + "; at the time 1000", 1000, 1050, "book(0, ?, 0)", ARGUMENT, HELD_0 + END_OF_TIME,
                "book(0, 1000, 0) = 0; book(0, 1050, 0) = 0; booked(0, 1001) = -1; booked(0, 1049) = -1");
        // The slot of hour 51 is another one than that of hour 0.
        Runs.boundary(23, HOUR + "; an hour later", HELD_0, """
                book(0, 0, 0) = 0; book(0, 50, 0) = 0; pass(1) = 0; book(0, 0, 0) = throws.IllegalArgumentException; booked(0, 51) = -1
                book(0, 51, 0) = 0; book(0, 52, 0) = throws.IllegalArgumentException; book(0, 50, 0) = throws.IllegalStateException
                pass(50) = 0; missed(0) = 2; pass(1) = 0; missed(0) = 3
                """);
        Runs.boundary(23, "a slot for each hour: all 51 of one bakery", HELD_0, Scenes.books(0, 50, 0), """
                book(0, 0, 0) = throws.IllegalStateException; book(0, 50, 0) = throws.IllegalStateException; pass(50) = 0; missed(0) = 50
                pass(1) = 0; missed(0) = 51; pass(50) = 0; missed(0) = 51
                """);
    }

    private static void bookRefused() {
        Runs.boundary(23, "IndexOutOfBoundsException if there is no such bakery or recipe: ahead of the others", HELD_0, """
                book(0, 0, 0) = 0; book(5, -1, 0) = throws.IndexOutOfBoundsException; book(-1, 51, 0) = throws.IndexOutOfBoundsException
                book(0, -1, 6) = throws.IndexOutOfBoundsException; book(0, 51, -1) = throws.IndexOutOfBoundsException
                book(0, 0, 6) = throws.IndexOutOfBoundsException; book(5, 0, 6) = throws.IndexOutOfBoundsException
                book(3, 0, 6) = throws.IndexOutOfBoundsException; book(5, 51, 6) = throws.IndexOutOfBoundsException
                """);
        Runs.boundary(23, "IllegalArgumentException if hour is out of range: ahead of IllegalStateException", HELD_0, """
                book(3, -1, 0) = throws.IllegalArgumentException; book(0, 51, 1) = throws.IllegalArgumentException; book(0, 0, 0) = 0
                pass(1) = 0; book(0, 0, 0) = throws.IllegalArgumentException; book(4, 52, 5) = throws.IllegalArgumentException
                """);
        Runs.boundary(23, "IllegalStateException if the slot is booked", HELD_0, """
                propose(0, 1, 1, 1) = 1; tell(0, 1) = 1; tell(0, 2) = 1; book(0, 0, 0) = 0; book(0, 50, 1) = 1
                book(0, 0, 0) = throws.IllegalStateException; book(0, 0, 1) = throws.IllegalStateException
                book(0, 50, 0) = throws.IllegalStateException; booked(0, 0) = 0; booked(0, 50) = 1; book(1, 0, 1) = 1
                free(0, 0) = 0; book(0, 0, 1) = 1
                """);
        Runs.boundary(23, "the slot is booked, and the bakery has no current version", HELD_0, "book(0, 0, 0) = 0; book(0, 0, 3) = throws.IllegalStateException");
        String none = "or the bakery has no current version of the recipe";
        Runs.boundary(23, none + ": no versions", "book(0, 0, 0) = throws.IllegalStateException; book(4, 50, 5) = throws.IllegalStateException");
        Runs.boundary(23, none + ": 2 have it, then 3", Scenes.LEADER_0, """
                propose(0, 0, 1, 1) = 0; book(0, 0, 0) = throws.IllegalStateException; tell(0, 1) = 1; book(0, 0, 0) = throws.IllegalStateException
                tell(0, 2) = 1; book(0, 0, 0) = 0
                """);
        Runs.boundary(23, none + ": of another one", HELD_0, "book(0, 0, 1) = throws.IllegalStateException; book(0, 0, 0) = 0");
        Runs.boundary(23, none + ": others have it", HELD_0, "book(3, 0, 0) = throws.IllegalStateException; tell(0, 3) = 1; book(3, 0, 0) = 0");
        Runs.boundary(23, none + ": not any more", Scenes.RIVALS, "book(0, 0, 0) = 0", Scenes.OVERTHROW,
                "book(0, 1, 0) = throws.IllegalStateException; book(1, 1, 0) = throws.IllegalStateException; booked(0, 1) = -1");
    }

    // ---- promise 24

    private static void renew() {
        bakery(24, "renew(?, 4)", BUSY, "renew(0, 4) = 0; tell(0, 4) = 2; book(4, 4, 5) = 1; renew(4, 4) = 1");
        Runs.range(24, HOUR, 4, 54, "renew(0, ?)", ARGUMENT, BUSY, "renew(0, 4) = 0; renew(0, 54) = 0");
        Runs.range(24, HOUR + "; at the time 1000", 1000, 1050, "renew(0, ?)", ARGUMENT,
                HELD_0 + END_OF_TIME + "book(0, 1000, 0) = 0; book(0, 1050, 0) = 0", "renew(0, 1000) = 0; renew(0, 1050) = 0");
        String sentence = "under the current version of the same recipe";
        Runs.boundary(24, sentence + ": the same version", HELD_0, "book(0, 0, 0) = 0; renew(0, 0) = 0; booked(0, 0) = 0");
        Runs.boundary(24, sentence + ": not of another one", HELD_0, """
                book(0, 0, 0) = 0; propose(0, 5, 1, 1) = 1; tell(0, 1) = 1; tell(0, 2) = 1; renew(0, 0) = 0; book(0, 1, 5) = 1
                propose(0, 0, 1, 1) = 2; tell(0, 1) = 1; tell(0, 2) = 1; renew(0, 1) = 1; renew(0, 0) = 2; booked(0, 0) = 2; booked(0, 1) = 1
                """);
        Runs.boundary(24, sentence + ": of a stopped slot", Scenes.RIVALS, "book(2, 0, 0) = 0; book(2, 50, 0) = 0", Scenes.OVERTHROW,
                "tell(4, 2) = 1; stopped() = 2; renew(2, 0) = 1; stopped() = 1; renew(2, 50) = 1; stopped() = 0");
    }

    private static void renewRefused() {
        Runs.boundary(24, "IndexOutOfBoundsException if there is no such bakery: ahead of the others", HELD_0, """
                renew(5, 0) = throws.IndexOutOfBoundsException; renew(5, -1) = throws.IndexOutOfBoundsException
                renew(-1, 51) = throws.IndexOutOfBoundsException
                """);
        Runs.boundary(24, "IllegalArgumentException if hour is out of range: ahead of IllegalStateException", HELD_0, """
                renew(0, -1) = throws.IllegalArgumentException; renew(3, 51) = throws.IllegalArgumentException; book(0, 0, 0) = 0; pass(1) = 0
                renew(0, 0) = throws.IllegalArgumentException; renew(0, 52) = throws.IllegalArgumentException
                """);
        Runs.boundary(24, "IllegalStateException if the slot is not booked", HELD_0, """
                renew(0, 0) = throws.IllegalStateException; renew(0, 50) = throws.IllegalStateException; book(0, 0, 0) = 0; free(0, 0) = 0
                renew(0, 0) = throws.IllegalStateException; booked(0, 0) = -1; book(0, 1, 0) = 0; renew(1, 1) = throws.IllegalStateException
                """);
        Runs.boundary(24, "IllegalStateException if the slot is not booked: that of 51 hours before was", HELD_0,
                "book(0, 0, 0) = 0; pass(1) = 0; renew(0, 51) = throws.IllegalStateException; booked(0, 51) = -1");
        Runs.boundary(24, "or the bakery has no current version of the recipe", Scenes.RIVALS, "book(0, 0, 0) = 0", Scenes.OVERTHROW,
                "renew(0, 0) = throws.IllegalStateException; booked(0, 0) = 0; stopped() = 1", Scenes.HELD_AGAIN, "renew(0, 0) = 0");
        // Its version is held, but it is not in the bakery's log any more.
        Runs.boundary(24, "or the bakery has no current version: others have it", Scenes.RIVALS, "tell(0, 3) = 1; book(0, 0, 0) = 0",
                Scenes.LEADER_4, "tell(4, 0) = 1; isHeld(0) = true; renew(0, 0) = throws.IllegalStateException; booked(0, 0) = 0; stopped() = 0");
    }

    // ---- promise 25

    private static void free() {
        bakery(25, "free(?, 4)", BUSY, "free(0, 4) = 0; tell(0, 4) = 2; book(4, 4, 5) = 1; free(4, 4) = 1");
        Runs.range(25, HOUR, 4, 54, "free(0, ?)", ARGUMENT, BUSY, """
                free(0, 4) = 0; booked(0, 54) = 0; free(0, 54) = 0; booked(0, 4) = -1; booked(0, 54) = -1
                """);
        Runs.range(25, HOUR + "; at the time 1000", 1000, 1050, "free(0, ?)", ARGUMENT,
                HELD_0 + END_OF_TIME + "book(0, 1000, 0) = 0; book(0, 1050, 0) = 0", "free(0, 1000) = 0; free(0, 1050) = 0");
        Runs.boundary(25, "Returns the version under which it was booked: a stopped one", Scenes.RIVALS, "book(0, 0, 0) = 0",
                Scenes.OVERTHROW, "stopped() = 1; free(0, 0) = 0; stopped() = 0; pass(1) = 0; missed(0) = 0");
    }

    private static void freeRefused() {
        Runs.boundary(25, "IndexOutOfBoundsException if there is no such bakery: ahead of the others",
                "free(5, 0) = throws.IndexOutOfBoundsException; free(5, -1) = throws.IndexOutOfBoundsException; free(-1, 51) = throws.IndexOutOfBoundsException");
        Runs.boundary(25, "IllegalArgumentException if hour is out of range: ahead of IllegalStateException", HELD_0, """
                free(0, -1) = throws.IllegalArgumentException; free(0, 51) = throws.IllegalArgumentException; book(0, 0, 0) = 0; pass(1) = 0
                free(0, 0) = throws.IllegalArgumentException; free(0, 52) = throws.IllegalArgumentException; missed(0) = 1
                """);
        Runs.boundary(25, "IllegalStateException if the slot is not booked", HELD_0, """
                free(0, 0) = throws.IllegalStateException; free(0, 50) = throws.IllegalStateException; book(0, 0, 0) = 0
                free(1, 0) = throws.IllegalStateException; free(0, 1) = throws.IllegalStateException; free(0, 0) = 0
                free(0, 0) = throws.IllegalStateException
                """);
        Runs.boundary(25, "IllegalStateException if the slot is not booked: that of 51 hours before was", HELD_0,
                "book(0, 0, 0) = 0; pass(1) = 0; free(0, 51) = throws.IllegalStateException");
    }

    // ---- promise 26

    private static void booked() {
        bakery(26, "booked(?, 4)", BUSY, "booked(0, 4) = 0; booked(4, 4) = -1; tell(0, 4) = 2; book(4, 4, 5) = 1; booked(4, 4) = 1");
        Runs.range(26, HOUR, 4, 54, "booked(0, ?)", ARGUMENT, BUSY,
                "booked(0, 4) = 0; booked(0, 54) = 0; booked(0, 5) = -1; booked(0, 53) = -1");
        Runs.range(26, HOUR + "; of a new object", 0, 50, "booked(4, ?)", ARGUMENT, "", "booked(4, 0) = -1; booked(4, 50) = -1");
        Runs.range(26, HOUR + "; at the time 1000", 1000, 1050, "booked(4, ?)", ARGUMENT, END_OF_TIME,
                "booked(4, 1000) = -1; booked(4, 1050) = -1");
        Runs.boundary(26, "Returns the version; NONE if it is not booked.", HELD_0, """
                booked(0, 0) = -1; book(0, 0, 0) = 0; booked(0, 0) = 0; booked(1, 0) = -1; booked(0, 50) = -1; free(0, 0) = 0; booked(0, 0) = -1
                """);
        Runs.boundary(26, "NONE if it is not booked: that of 51 hours before was", HELD_0, "book(0, 0, 0) = 0; pass(1) = 0; booked(0, 51) = -1");
        Runs.boundary(26, "IndexOutOfBoundsException: ahead of IllegalArgumentException",
                "booked(5, -1) = throws.IndexOutOfBoundsException; booked(-1, 51) = throws.IndexOutOfBoundsException");
    }

    // ---- promise 27

    private static void stopped() {
        String sentence = "how many slots of all bakeries, from the time of now on, are stopped";
        Runs.boundary(27, sentence + ": nothing is booked", "stopped() = 0; pass(1) = 0; stopped() = 0");
        Runs.boundary(27, sentence + ": none", BUSY, "stopped() = 0");
        Runs.boundary(27, sentence + ": that of now, and the one 50 hours later", Scenes.RIVALS, "book(0, 0, 0) = 0; book(2, 50, 0) = 0",
                Scenes.OVERTHROW, "stopped() = 2; pass(1) = 0; stopped() = 1; pass(49) = 0; time() = 50; stopped() = 1; pass(1) = 0; stopped() = 0");
        Runs.boundary(27, sentence + ": at the time 1000", Scenes.RIVALS, END_OF_TIME, "book(0, 1000, 0) = 0; book(0, 1050, 0) = 0",
                Scenes.OVERTHROW, "stopped() = 2; free(0, 1000) = 0; stopped() = 1");
        Runs.boundary(27, "A slot that is booked is stopped while its version is not held: and goes on then", Scenes.RIVALS,
                "book(0, 0, 0) = 0", Scenes.OVERTHROW, "stopped() = 1", Scenes.HELD_AGAIN, "stopped() = 0; booked(0, 0) = 0");
        // Of 4 that have it one, then two are told.
        Runs.boundary(27, "A slot that is booked is stopped while its version is not held: 3 have it, then 2", Scenes.RIVALS,
                "tell(0, 3) = 1; book(1, 0, 0) = 0", Scenes.LEADER_4, "tell(4, 1) = 1; stopped() = 0; tell(4, 2) = 1; stopped() = 1");
    }

    /** As many slots as can be stopped at once: a version that all have in their logs is not lost any more. */
    private static void stoppedInAll() {
        StringBuilder books = new StringBuilder();
        for (int bakery = 0; bakery < 4; bakery++) {
            books.append(Scenes.books(0, 50, 0).replace("book(0,", "book(" + bakery + ","));
        }
        Runs.boundary(27, "how many slots of all bakeries: 51 of each of four", Scenes.RIVALS, "tell(0, 3) = 1", books.toString(),
                Scenes.LEADER_4, "tell(4, 1) = 1; stopped() = 0; tell(4, 2) = 1; stopped() = 204; pass(1) = 0; stopped() = 200",
                "missed(0) = 1; missed(3) = 1; pass(49) = 0; stopped() = 4; pass(1) = 0; stopped() = 0; missed(1) = 51");
    }

    // ---- promise 28

    private static void passRanges() {
        Runs.range(28, "hours", 1, 50, "pass(?)", ARGUMENT, BUSY, "pass(1) = 1; time() = 5; pass(50) = 1; time() = 55");
        Runs.boundary(28, "hours: 1 to 50; the slot 50 hours later is not reached yet", BUSY,
                "pass(50) = 1; time() = 54; booked(0, 54) = 0; pass(1) = 1; missed(0) = 0");
        Runs.boundary(28, "Returns how many batches are made in them: none", "pass(50) = 0; time() = 50; batches() = 0; missed(0) = 0; missed(4) = 0");
        Runs.boundary(28, "Returns how many batches are made in them: in each hour", HELD_0, "addLot() = 0; 2 * deliver(0, 0, 50); deliver(0, 0, 18) = 118",
                Scenes.books(0, 49, 0), "pass(50) = 50; store(0) = 18; pass(50) = 0; batches() = 50");
        // All five bakeries in one hour, by rising numbers.
        Runs.boundary(28, "for each bakery, by rising numbers, whose slot of this hour is booked", HELD_0, """
                tell(0, 4) = 1; tell(0, 3) = 1; 5 * addLot(); deliver(4, 0, 2) = 2; deliver(3, 1, 2) = 2; deliver(2, 2, 2) = 2
                deliver(1, 3, 2) = 2; deliver(0, 4, 2) = 2; book(4, 0, 0) = 0; book(3, 0, 0) = 0; book(2, 0, 0) = 0; book(1, 0, 0) = 0
                book(0, 0, 0) = 0; pass(1) = 5; lotsOf(0) = 16; lotsOf(1) = 8; lotsOf(2) = 4; lotsOf(3) = 2; lotsOf(4) = 1
                """);
    }

    private static void passBags() {
        String sentence = "the store has as many bags as its version tells";
        Runs.boundary(28, sentence + ": none", HELD_0, "book(0, 0, 0) = 0; pass(1) = 0; missed(0) = 1; store(0) = 0");
        Runs.boundary(28, sentence + ": one too few", HELD_0, "addLot() = 0; deliver(0, 0, 1) = 1; book(0, 0, 0) = 0; pass(1) = 0; missed(0) = 1; store(0) = 1");
        Runs.boundary(28, sentence + ": just as many", HELD_0, "addLot() = 0; deliver(0, 0, 2) = 2; book(0, 0, 0) = 0; pass(1) = 1; missed(0) = 0; store(0) = 0");
        Runs.boundary(28, sentence + ": one more", HELD_0, "addLot() = 0; deliver(0, 0, 3) = 3; book(0, 0, 0) = 0; pass(1) = 1; store(0) = 1");
        Runs.boundary(28, sentence + ": 8 and 9 of 9", Scenes.LEADER_0, """
                propose(0, 0, 9, 1) = 0; tell(0, 1) = 1; tell(0, 2) = 1; addLot() = 0; deliver(0, 0, 8) = 8; deliver(1, 0, 9) = 9
                book(0, 0, 0) = 0; book(1, 0, 0) = 0; pass(1) = 1; store(0) = 8; store(1) = 0; missed(0) = 1; missed(1) = 0
                """);
        Runs.boundary(28, sentence + ": others' bags do not count", HELD_0, FLOUR_0, "book(1, 0, 0) = 0; pass(1) = 0; missed(1) = 1; store(0) = 20");
        Runs.boundary(28, "the first so many bags are taken: of a full store", HELD_0, """
                3 * addLot(); deliver(0, 2, 1) = 1; deliver(0, 1, 2) = 3; 3 * deliver(0, 0, 50); deliver(0, 0, 47) = 200; book(0, 0, 0) = 0
                book(0, 1, 0) = 0; pass(2) = 2; lotsOf(0) = 6; lotsOf(1) = 3; store(0) = 196; deliver(0, 2, 4) = 200
                """);
        Runs.boundary(28, "if it is not stopped", Scenes.RIVALS, FLOUR_0, "book(0, 0, 0) = 0", Scenes.OVERTHROW,
                "pass(1) = 0; missed(0) = 1; store(0) = 20; batches() = 0");
        Runs.boundary(28, "otherwise the bakery has missed one more: stopped, and too few bags", Scenes.RIVALS, "book(0, 0, 0) = 0",
                Scenes.OVERTHROW, "pass(1) = 0; missed(0) = 1");
    }

    private static void passFull() {
        String sentence = "there are fewer than 60 batches";
        Runs.boundary(28, sentence, Scenes.LEADER_0, Scenes.SIXTY_BATCHES, """
                batches() = 60; missed(0) = 0; book(0, 60, 0) = 0; pass(1) = 0; batches() = 60; missed(0) = 1; store(0) = 10
                """);
        // 59 are there; of two bakeries in one hour the second misses one.
        String rows = """
                propose(0, 0, 1, 1) = 0; tell(0, 1) = 1; tell(0, 2) = 1; addLot() = 0; deliver(0, 0, 50) = 50; deliver(0, 0, 20) = 70
                deliver(1, 0, 5) = 5
                """ + Scenes.books(0, 49, 0) + "pass(50) = 50\n" + Scenes.books(50, 58, 0) + "pass(9) = 9; batches() = 59\n";
        Runs.boundary(28, sentence, Scenes.LEADER_0, rows, """
                book(1, 59, 0) = 0; book(0, 59, 0) = 0; pass(1) = 1; batches() = 60; store(0) = 10; store(1) = 5; missed(0) = 0; missed(1) = 1
                """);
        Runs.boundary(28, sentence, Scenes.LEADER_0, rows, """
                book(1, 59, 0) = 0; book(0, 60, 0) = 0; pass(2) = 1; store(0) = 11; store(1) = 4; missed(0) = 1; missed(1) = 0
                """);
        Runs.boundary(28, sentence + ", none is stopped by that", Scenes.LEADER_0, Scenes.SIXTY_BATCHES,
                "book(0, 60, 0) = 0; stopped() = 0; renew(0, 60) = 0; free(0, 60) = 0; pass(1) = 0; missed(0) = 0");
    }

    private static void passRefused() {
        String sentence = "Throws IllegalStateException if the time would be above 1000";
        Runs.boundary(28, sentence, "19 * pass(50); time() = 950; pass(50) = 0; time() = 1000; pass(1) = throws.IllegalStateException",
                "pass(50) = throws.IllegalStateException; time() = 1000");
        Runs.boundary(28, sentence, "19 * pass(50); pass(1) = 0; pass(50) = throws.IllegalStateException; time() = 951; pass(49) = 0; time() = 1000");
        Runs.boundary(28, sentence, "19 * pass(50); pass(49) = 0; pass(2) = throws.IllegalStateException; time() = 999; pass(1) = 0; time() = 1000");
        // The slots up to then are not baked either.
        Runs.boundary(28, sentence, HELD_0, FLOUR_0, "19 * pass(50); pass(49) = 0; book(0, 999, 0) = 0; book(1, 1000, 0) = 0", """
                pass(2) = throws.IllegalStateException; batches() = 0; store(0) = 20; pass(1) = 1; store(0) = 18; missed(1) = 0; booked(1, 1000) = 0
                """);
        Runs.boundary(28, "IllegalArgumentException if hours is out of range: ahead of IllegalStateException", END_OF_TIME, """
                pass(51) = throws.IllegalArgumentException; pass(0) = throws.IllegalArgumentException; pass(-1) = throws.IllegalArgumentException
                pass(2147483647) = throws.IllegalArgumentException; pass(1) = throws.IllegalStateException
                """);
    }

    // ---- promises 29 and 30

    private static void time() {
        Runs.boundary(29, "Time is told in hours, 0 at first", "time() = 0; pass(1) = 0; time() = 1; pass(50) = 0; time() = 51");
        Runs.boundary(29, "Returns the time: 1000 at last", END_OF_TIME, "time() = 1000; pass(1) = throws.IllegalStateException; time() = 1000");
    }

    private static void missed() {
        bakery(30, "missed(?)", BUSY, "missed(0) = 0; tell(0, 4) = 2; book(4, 4, 5) = 1; pass(1) = 1; missed(0) = 0; missed(4) = 1");
        Runs.boundary(30, "how many batches a bakery has missed: none", "missed(0) = 0; pass(50) = 0; missed(0) = 0; missed(4) = 0");
        Runs.boundary(30, "how many batches a bakery has missed: not before its hour has passed", HELD_0,
                "book(0, 0, 0) = 0; book(0, 1, 0) = 0; missed(0) = 0; pass(1) = 0; missed(0) = 1; pass(1) = 0; missed(0) = 2");
        Runs.boundary(30, "how many batches a bakery has missed: for each reason", Scenes.RIVALS, FLOUR_0,
                "deliver(2, 0, 1) = 1; book(2, 0, 0) = 0; book(0, 0, 0) = 0; pass(1) = 1; missed(0) = 0; missed(2) = 1; book(0, 1, 0) = 0",
                Scenes.OVERTHROW, "pass(1) = 0; missed(0) = 1; missed(2) = 1; missed(1) = 0");
        Runs.boundary(30, "how many batches a bakery has missed: the 61st", Scenes.LEADER_0, Scenes.SIXTY_BATCHES,
                "missed(0) = 0; book(0, 60, 0) = 0; book(0, 61, 0) = 0; pass(2) = 0; missed(0) = 2; missed(1) = 0");
    }
}
