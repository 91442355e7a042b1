/** Rows that many runs begin with. */
final class Scenes {
    /** Bakery 0 is leader in term 1, by its own vote and those of 1 and 2. */
    static final String LEADER_0 = "stand(0) = 1; vote(1, 0) = true; vote(2, 0) = true\n";

    /** Version 0 of recipe 0, 2 bags and 10 loaves, is held by 0, 1 and 2. */
    static final String HELD_0 = LEADER_0 + "propose(0, 0, 2, 10) = 0; tell(0, 1) = 1; tell(0, 2) = 1\n";

    /** Lot 0, with 20 bags in the store of bakery 0. */
    static final String FLOUR_0 = "addLot() = 0; deliver(0, 0, 20) = 20\n";

    /** Batches 0 and 1 of version 0, each of 10 loaves, from lot 0; it is the hour 2. */
    static final String TWO_BATCHES = HELD_0 + FLOUR_0 + "book(0, 0, 0) = 0; book(0, 1, 0) = 0; pass(2) = 2\n";

    /**
     * Version 0 of recipe 0, 2 bags and 10 loaves, of term 1, is held by 0, 1 and 2 since term 3; version 1 of the same
     * recipe, 1 bag and 5 loaves, of term 2, is in the log of 4 alone.
     */
    static final String RIVALS = LEADER_0 + """
            propose(0, 0, 2, 10) = 0; tell(0, 1) = 1
            2 * stand(4); vote(2, 4) = true; vote(3, 4) = true; propose(4, 0, 1, 5) = 1
            2 * stand(0); vote(1, 0) = true; vote(2, 0) = true; tell(0, 2) = 1
            """;

    /** After RIVALS: 4 is leader in term 4; as soon as it tells 1, version 0 is not held any more. */
    static final String LEADER_4 = "2 * stand(4); vote(1, 4) = true; vote(2, 4) = true\n";

    /** Version 0 is held by 0 and 2 alone, version 1 by 1 and 4. */
    static final String OVERTHROW = LEADER_4 + "tell(4, 1) = 1\n";

    /** After that: 0 is leader in term 5 and gives version 0 to 3, so that it is held again. */
    static final String HELD_AGAIN = "2 * stand(0); vote(2, 0) = true; vote(3, 0) = true; tell(0, 3) = 1\n";

    /**
     * Versions 0, of recipe 0, and 1, of recipe 1, 1 bag and 10 loaves both, are held by 0, 1 and 2; version 2, of a
     * term between, is in the log of 4, which is not leader yet.
     */
    static final String PAIR_OF_RIVALS = LEADER_0 + """
            propose(0, 0, 1, 10) = 0; propose(0, 1, 1, 10) = 1; tell(0, 1) = 2
            2 * stand(4); vote(2, 4) = true; vote(3, 4) = true; propose(4, 0, 1, 5) = 2
            2 * stand(0); vote(1, 0) = true; vote(2, 0) = true; tell(0, 2) = 2
            """;

    private Scenes() {
    }

    /** Slots of bakery 0, from the one hour to the other. */
    static String books(int from, int to, int recipe) {
        StringBuilder rows = new StringBuilder();
        for (int hour = from; hour <= to; hour++) {
            rows.append("book(0, ").append(hour).append(", ").append(recipe).append(")\n");
        }
        return rows.toString();
    }
}
