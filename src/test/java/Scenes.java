/** Rows that many runs begin with. */
final class Scenes {
    /** Bakery 0 is leader in term 1, by its own vote and those of 1 and 2. */
    static final String LEADER_0 = "stand(0) = 1; vote(1, 0) = true; vote(2, 0) = true\n";

    /** Version 0 of recipe 0, 2 bags and 10 loaves, is held by 0, 1 and 2. */
    static final String HELD_0 = LEADER_0 + "propose(0, 0, 2, 10) = 0; tell(0, 1) = 1; tell(0, 2) = 1\n";

    /** Lot 0, with 20 bags in the store of bakery 0. */
    static final String FLOUR_0 = "addLot() = 0; deliver(0, 0, 20) = 20\n";

    /** Batches 0 and 1 of version 0, each of 10 loaves, from lot 0; it is the hour 2. */
    static final String TWO_BATCHES = HELD_0 + FLOUR_0 + "book(0, 0, 0) = 0; book(0, 1, 0) = 0; pass(2) = 2\n";

    /**
     * Version 0 of recipe 0, 2 bags and 10 loaves, of term 1, is held by 0, 1 and 2 since term 3; version 1 of the same
     * recipe, 1 bag and 5 loaves, of term 2, is in the log of 4 alone.
     */
    static final String RIVALS = LEADER_0 + """
            propose(0, 0, 2, 10) = 0; tell(0, 1) = 1
            2 * stand(4); vote(2, 4) = true; vote(3, 4) = true; propose(4, 0, 1, 5) = 1
            2 * stand(0); vote(1, 0) = true; vote(2, 0) = true; tell(0, 2) = 1
            """;

    /** After RIVALS: 4 is leader in term 4; as soon as it tells 1, version 0 is not held any more. */
    static final String LEADER_4 = "2 * stand(4); vote(1, 4) = true; vote(2, 4) = true\n";

    /** Version 0 is held by 0 and 2 alone, version 1 by 1 and 4. */
    static final String OVERTHROW = LEADER_4 + "tell(4, 1) = 1\n";

    /** After that: 0 is leader in term 5 and gives version 0 to 3, so that it is held again. */
    static final String HELD_AGAIN = "2 * stand(0); vote(2, 0) = true; vote(3, 0) = true; tell(0, 3) = 1\n";

    /**
     * Versions 0, of recipe 0, and 1, of recipe 1, 1 bag and 10 loaves both, are held by 0, 1 and 2; version 2, of a
     * term between, is in the log of 4, which is not leader yet.
     */
    static final String PAIR_OF_RIVALS = LEADER_0 + """
            propose(0, 0, 1, 10) = 0; propose(0, 1, 1, 10) = 1; tell(0, 1) = 2
            2 * stand(4); vote(2, 4) = true; vote(3, 4) = true; propose(4, 0, 1, 5) = 2
            2 * stand(0); vote(1, 0) = true; vote(2, 0) = true; tell(0, 2) = 2
            """;

    /**
     * Something of all there is, at the time 4. Versions 0, of recipe 0, 2 bags and 10 loaves, and 1, of recipe 5, 1 bag
     * and 40 loaves, are held by 0, 1 and 2; 0 is leader and 4 a candidate, both in term 1. Of lots 0 to 3 lot 2 is
     * condemned. Batches 0, 1 and 2 are of version 0 and of the lots 0, 2 and 2, batch 3 of version 1 and lot 3. Recalls 0
     * and 1 are of batches 1 and 2. Bakery 0 has 19 bags, all of lot 3, and slots at hours 4 and 54.
     */
    static final String BUSY = LEADER_0 + """
            propose(0, 0, 2, 10) = 0; propose(0, 5, 1, 40) = 1; tell(0, 1) = 2; tell(0, 2) = 2; stand(4) = 1
            4 * addLot(); deliver(0, 0, 2) = 2; deliver(0, 2, 4) = 6; deliver(0, 3, 20) = 26
            book(0, 0, 0) = 0; book(0, 1, 0) = 0; book(0, 2, 0) = 0; book(0, 3, 5) = 1; pass(4) = 4
            sell(1, 3) = 7; sell(2, 1) = 9; condemn(2) = 4; book(0, 4, 0) = 0; book(0, 54, 0) = 0
            """;

    /**
     * 60 versions. The log of 0 has 0 to 9, those of 1 and 2 are full with 10 to 29 and 30 to 49, that of 3 has 30 and 50
     * to 59, that of 4 has 30. 1, 2 and 3 are leaders, in terms 2, 3 and 4.
     */
    static final String SIXTY_VERSIONS = LEADER_0 + """
            10 * propose(0, 0, 1, 1); stand(1) = 2; vote(3, 1) = true; vote(4, 1) = true; 20 * propose(1, 0, 1, 1)
            2 * stand(2); vote(3, 2) = true; vote(4, 2) = true; propose(2, 0, 1, 1) = 30; tell(2, 3) = 1; tell(2, 4) = 1
            19 * propose(2, 0, 1, 1); stand(3) = 4; vote(4, 3) = true; vote(0, 3) = true; 9 * propose(3, 5, 1, 1)
            propose(3, 5, 1, 1) = 59
            """;

    /** Behind LEADER_0: version 0 of recipe 0, 1 bag and 40 loaves, held by 0, 1 and 2, and 60 batches of lot 0. */
    static final String SIXTY_BATCHES = """
            propose(0, 0, 1, 40) = 0; tell(0, 1) = 1; tell(0, 2) = 1; addLot() = 0; deliver(0, 0, 50) = 50; deliver(0, 0, 20) = 70
            """ + books(0, 49, 0) + "pass(50) = 50\n" + books(50, 59, 0) + "pass(10) = 10\n";

    private Scenes() {
    }

    /** Slots of bakery 0, from the one hour to the other. */
    static String books(int from, int to, int recipe) {
        StringBuilder rows = new StringBuilder();
        for (int hour = from; hour <= to; hour++) {
            rows.append("book(0, ").append(hour).append(", ").append(recipe).append(")\n");
        }
        return rows.toString();
    }
}
