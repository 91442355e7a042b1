/**
 * Promises 1 to 18 at their bounds: each sentence of the document that names a boundary case has a run of its own, which
 * bears its words.
 */
public final class AgreementBoundsTest {
    private static final String INDEX = "IndexOutOfBoundsException";
    private static final String ARGUMENT = "IllegalArgumentException";
    private static final String BUSY = Scenes.BUSY;
    private static final String LEADER_0 = Scenes.LEADER_0;

    /** Behind LEADER_0, where the logs of 2 and 3 are empty: 4 is leader in term 2. */
    private static final String THEN_LEADER_4 = "2 * stand(4); vote(2, 4) = true; vote(3, 4) = true\n";

    /** 0 is leader in term 100. */
    private static final String LEADER_OF_TERM_100 = "100 * stand(0); vote(1, 0) = true; vote(2, 0) = true; role(0) = 2\n";

    public static void main(String[] args) {
        newObject();
        refusedOnANewObject();
        part();
        stand();
        voteByTerm();
        voteOnce();
        voteByLog();
        threeVotes();
        voteRefused();
        proposeRanges();
        proposeFull();
        proposeRefused();
        tellByTerm();
        tellByLog();
        tellFull();
        tellRefused();
        askBakeries();
        logs();
        versions();
        holders();
        held();
        current();
        Runs.end(1, 18);
    }

    private static void bakery(int promise, String call, String scene, String inside) {
        Runs.range(promise, "bakery", 0, 4, call, INDEX, scene, inside);
    }

    // ---- promise 1

    private static void newObject() {
        String sentence = "Begins at the time 0, with all bakeries in one group, without versions, lots and batches.";
        Runs.boundary(1, sentence, "time() = 0; versions() = 0; batches() = 0; recalls() = 0; stopped() = 0; onSale() = 0; addLot() = 0");
        for (int bakery = 0; bakery < 5; bakery++) {
            StringBuilder rows = new StringBuilder("""
                    role(B) = 0; term(B) = 0; votedFor(B) = -1; entries(B) = 0; store(B) = 0; missed(B) = 0
                    reach(B, 0) = true; reach(B, 1) = true; reach(B, 2) = true; reach(B, 3) = true; reach(B, 4) = true
                    """);
            for (int recipe = 0; recipe < 6; recipe++) {
                rows.append("current(B, ").append(recipe).append(") = -1\n");
            }
            for (int hour = 0; hour <= 50; hour++) {
                rows.append("booked(B, ").append(hour).append(") = -1\n");
            }
            Runs.boundary(1, sentence, rows.toString().replace("B", String.valueOf(bakery)));
        }
    }

    private static void refusedOnANewObject() {
        Runs.boundary(1, "Begins ... without versions, lots and batches: no call finds one", """
                versionAt(0, 0) = throws.IndexOutOfBoundsException; versionAt(4, 0) = throws.IndexOutOfBoundsException
                termOf(0) = throws.IndexOutOfBoundsException; holders(0) = throws.IndexOutOfBoundsException
                isHeld(0) = throws.IndexOutOfBoundsException; wasHeld(0) = throws.IndexOutOfBoundsException
                deliver(0, 0, 1) = throws.IndexOutOfBoundsException; condemn(0) = throws.IndexOutOfBoundsException
                traced(0) = throws.IndexOutOfBoundsException; tracedAt(0, 0) = throws.IndexOutOfBoundsException
                versionOf(0) = throws.IndexOutOfBoundsException; lotsOf(0) = throws.IndexOutOfBoundsException
                left(0) = throws.IndexOutOfBoundsException; barred(0) = throws.IndexOutOfBoundsException
                barredAnew(0) = throws.IndexOutOfBoundsException; sell(0, 1) = throws.IndexOutOfBoundsException
                recallOf(0) = throws.IndexOutOfBoundsException; calledBack(0) = throws.IndexOutOfBoundsException
                why(0) = throws.IndexOutOfBoundsException
                vote(1, 0) = throws.IllegalStateException; propose(0, 0, 1, 1) = throws.IllegalStateException
                tell(0, 1) = throws.IllegalStateException; book(0, 0, 0) = throws.IllegalStateException
                renew(0, 0) = throws.IllegalStateException; free(0, 0) = throws.IllegalStateException
                """);
    }

    // ---- promise 2

    private static void part() {
        Runs.range(2, "group", 0, 31, "part(?)", ARGUMENT, BUSY, "part(0) = 0; part(31) = 0; part(1) = 4; part(30) = 4");
        for (int from = 0; from < 32; from += 16) {
            StringBuilder rows = new StringBuilder();
            for (int group = from; group < from + 16; group++) {
                int members = Integer.bitCount(group);
                rows.append("part(").append(group).append(") = ").append(members * (5 - members)).append('\n');
                appendReach(rows, group);
            }
            Runs.boundary(2, "0 to 31: one of them, bit b for the bakery b; the others are the other one", rows.toString());
        }
        Runs.boundary(2, "two groups, one of which may be empty, as at first", """
                stand(0) = 1; part(31) = 0; vote(1, 0) = true; part(0) = 0; vote(4, 0) = true; role(0) = 2
                part(31) = 0; tell(0, 3) = 0; part(0) = 0; tell(0, 2) = 0
                """);
        Runs.boundary(2, "in place of those before", "part(31) = 0; part(16) = 4; part(1) = 4; reach(4, 1) = true; reach(4, 0) = false");
    }

    private static void appendReach(StringBuilder rows, int group) {
        for (int a = 0; a < 5; a++) {
            for (int b = a + 1; b < 5; b++) {
                boolean together = (group >> a & 1) == (group >> b & 1);
                rows.append("reach(").append(a).append(", ").append(b).append(") = ").append(together).append('\n');
            }
        }
    }

    // ---- promise 3

    private static void stand() {
        bakery(3, "stand(?)", BUSY, "stand(0) = 2; stand(4) = 2");
        String sentence = "Throws IllegalStateException if its term is 100";
        // As a candidate, whose 100 terms are all its own.
        Runs.boundary(3, sentence, "99 * stand(2); stand(2) = 100; stand(2) = throws.IllegalStateException; stand(3) = 1; term(2) = 100");
        // As a follower, which took that term; with 99 it may still stand.
        Runs.boundary(3, sentence, "100 * stand(2); vote(3, 2) = true; stand(3) = throws.IllegalStateException; role(3) = 0; votedFor(3) = 2");
        Runs.boundary(3, sentence, "99 * stand(2); vote(3, 2) = true; stand(3) = 100; stand(3) = throws.IllegalStateException; role(3) = 1");
        // As a leader.
        Runs.boundary(3, sentence, LEADER_OF_TERM_100, "stand(0) = throws.IllegalStateException; role(0) = 2; propose(0, 0, 1, 1) = 0");
        Runs.boundary(3, "To stand: the term of the bakery grows by 1, it is a CANDIDATE; of a LEADER of term 99, too", """
                99 * stand(0); vote(1, 0) = true; vote(2, 0) = true; role(0) = 2; stand(0) = 100; role(0) = 1; votedFor(0) = 0
                vote(1, 0) = true; role(0) = 1; vote(2, 0) = true; role(0) = 2
                """);
        Runs.boundary(3, "its vote in this term is its own", "stand(1) = 1; votedFor(1) = 1; stand(0) = 1; vote(1, 0) = false; votedFor(1) = 1");
        Runs.boundary(3, "stand, alone in its group", "part(4) = 4; stand(2) = 1; role(2) = 1");
    }

    // ---- promise 4

    private static void voteByTerm() {
        bakery(4, "vote(?, 4)", BUSY, "vote(0, 4) = false; stand(0) = 2; vote(4, 0) = true");
        bakery(4, "vote(0, ?)", BUSY, "vote(0, 4) = false; 2 * stand(4); vote(0, 4) = false");
        bakery(4, "vote(4, ?)", LEADER_0, "stand(0) = 2; vote(4, 0) = true");
        String greater = "if the voter's term is greater, the candidate takes it, and that is all";
        Runs.boundary(4, greater, """
                stand(0) = 1; 2 * stand(1); vote(1, 0) = false; term(0) = 2; role(0) = 0; votedFor(0) = -1
                term(1) = 2; role(1) = 1; votedFor(1) = 1
                """);
        Runs.boundary(4, greater, """
                stand(0) = 1; 100 * stand(1); vote(1, 0) = false; term(0) = 100; role(0) = 0; votedFor(0) = -1
                vote(1, 0) = throws.IllegalStateException; stand(0) = throws.IllegalStateException; vote(0, 1) = true
                """);
        // A voter of the greater term that has voted for nobody does not vote either.
        Runs.boundary(4, greater, LEADER_0, """
                propose(0, 0, 1, 1) = 0; 2 * stand(3); vote(0, 3) = false; term(0) = 2; votedFor(0) = -1; stand(4) = 1
                vote(0, 4) = false; votedFor(0) = -1; term(4) = 2; role(4) = 0
                """);
        Runs.boundary(4, "the voter's term is the same: nobody takes one", """
                2 * stand(0); stand(1) = 1; vote(2, 1) = true; stand(2) = 2; vote(2, 0) = false; term(0) = 2; role(0) = 1
                term(2) = 2; role(2) = 1; votedFor(2) = 2
                """);
        String less = "If it is less, the voter takes the candidate's.";
        Runs.boundary(4, less, "stand(1) = 1; 2 * stand(0); vote(1, 0) = true; term(1) = 2; role(1) = 0; votedFor(1) = 0; role(0) = 1");
        Runs.boundary(4, less, "100 * stand(0); vote(1, 0) = true; term(1) = 100; votedFor(1) = 0; term(0) = 100");
        Runs.boundary(4, less + " Also a LEADER, and one that does not vote then", LEADER_0, """
                propose(0, 0, 1, 1) = 0; stand(1) = 2; vote(0, 1) = false; term(0) = 2; role(0) = 0; votedFor(0) = -1
                """);
    }

    private static void voteOnce() {
        Runs.boundary(4, "unless it has voted for another one in this term", """
                stand(0) = 1; stand(1) = 1; vote(2, 0) = true; vote(2, 1) = false; votedFor(2) = 0; role(1) = 1
                stand(1) = 2; vote(2, 1) = true; votedFor(2) = 1; term(2) = 2
                """);
        Runs.boundary(4, "(itself, too)", """
                stand(0) = 1; stand(1) = 1; vote(1, 0) = false; vote(0, 1) = false; votedFor(0) = 0; votedFor(1) = 1
                stand(0) = 2; vote(1, 0) = true; votedFor(1) = 0; role(1) = 0
                """);
        Runs.boundary(4, "(itself, too): one that stood and is a FOLLOWER of this term by now", """
                stand(3) = 1; stand(4) = 1; stand(0) = 1; vote(1, 0) = true; vote(2, 0) = true; tell(0, 3) = 0; role(3) = 0
                vote(3, 4) = false; votedFor(3) = 3
                """);
        Runs.boundary(4, "Returns whether it votes for the candidate, or has done so in this term.", """
                stand(0) = 1; vote(1, 0) = true; vote(1, 0) = true; votedFor(1) = 0; role(0) = 1; stand(0) = 2; votedFor(1) = 0
                term(1) = 1; vote(1, 0) = true; term(1) = 2; role(0) = 1
                """);
        // It has done so, though its log is the better one by now.
        Runs.boundary(4, "Returns whether it votes for the candidate, or has done so in this term.", """
                stand(0) = 1; vote(1, 0) = true; stand(2) = 1; vote(3, 2) = true; vote(4, 2) = true; propose(2, 0, 1, 1) = 0
                tell(2, 1) = 1; vote(1, 0) = true; votedFor(1) = 0; role(0) = 1; vote(3, 0) = false
                """);
    }

    private static void voteByLog() {
        String empty = "a log without versions is the worst";
        Runs.boundary(4, empty + "; both are without: it votes", "stand(0) = 1; vote(1, 0) = true; entries(0) = 0; entries(1) = 0");
        Runs.boundary(4, empty + "; the candidate's alone", LEADER_0,
                "propose(0, 0, 1, 1) = 0; stand(1) = 2; vote(0, 1) = false; votedFor(0) = -1; vote(3, 1) = true");
        Runs.boundary(4, empty + "; the voter's alone", LEADER_0, "propose(0, 0, 1, 1) = 0; stand(0) = 2; vote(3, 0) = true");
        // Terms 1 and 2 of the last versions, with logs of 2 and 1, and of 1 and 1.
        for (int more = 1; more <= 2; more++) {
            String rows = LEADER_0 + more + " * propose(0, 0, 1, 1);" + THEN_LEADER_4 + "propose(4, 0, 1, 1) = " + more + "\n";
            Runs.boundary(4, "if its last version is of a greater term than the candidate's last one", rows,
                    "2 * stand(0); vote(4, 0) = false; term(4) = 3; role(4) = 0; votedFor(4) = -1; role(0) = 1");
            Runs.boundary(4, "of a greater term: the candidate's is", rows, "stand(4) = 3; vote(0, 4) = true; votedFor(0) = 4");
        }
        Runs.boundary(4, "if its last version is of a greater term: the last one, not the first", LEADER_0, """
                propose(0, 0, 1, 1) = 0; tell(0, 1) = 1; propose(0, 0, 1, 1) = 1; stand(1) = 2; vote(2, 1) = true; vote(3, 1) = true
                propose(1, 0, 1, 1) = 2; 2 * stand(0); vote(1, 0) = false; stand(1) = 4; vote(0, 1) = true
                """);
        String longer = LEADER_0 + "propose(0, 0, 1, 1) = 0; tell(0, 1) = 1; tell(0, 3) = 1; propose(0, 0, 1, 1) = 1; tell(0, 2) = 2\n";
        Runs.boundary(4, "or of the same and its log is longer", longer, "stand(1) = 2; vote(2, 1) = false; votedFor(2) = -1; term(2) = 2");
        Runs.boundary(4, "of the same, and its log is as long", longer, "stand(1) = 2; vote(3, 1) = true; stand(0) = 2; vote(2, 0) = true");
        Runs.boundary(4, "of the same, and its log is shorter", longer, "stand(2) = 2; vote(1, 2) = true; vote(0, 2) = true; role(2) = 2");
        // Full logs, of 20 and of 19 versions.
        Runs.boundary(4, "or of the same and its log is longer; of 20 versions", LEADER_0, """
                19 * propose(0, 0, 1, 1); tell(0, 1) = 19; propose(0, 0, 1, 1) = 19; tell(0, 2) = 20; stand(1) = 2
                vote(2, 1) = false; vote(0, 1) = false; stand(2) = 3; vote(1, 2) = true; vote(0, 2) = true; role(2) = 2
                """);
        // Terms 99 and 100 of the last versions.
        Runs.boundary(4, "of a greater term; of 100", """
                98 * stand(0); vote(1, 0) = true; vote(2, 0) = true; 2 * propose(0, 0, 1, 1); termOf(1) = 98; 99 * stand(4)
                vote(2, 4) = true; vote(3, 4) = true; propose(4, 0, 1, 1) = 2; termOf(2) = 99; stand(0) = 99; stand(0) = 100
                vote(4, 0) = false; vote(1, 0) = true; votedFor(4) = -1; term(4) = 100; role(0) = 1
                """);
    }

    private static void threeVotes() {
        String three = "A candidate that was given 3 votes in its term, its own included, ... is LEADER";
        Runs.boundary(4, three, "stand(4) = 1; role(4) = 1; vote(0, 4) = true; role(4) = 1; vote(1, 4) = true; role(4) = 2");
        Runs.boundary(4, "that of each voter once", "stand(4) = 1; 9 * vote(0, 4) = true; role(4) = 1; vote(3, 4) = true; role(4) = 2");
        Runs.boundary(4, "in its term: not those of a term before", """
                stand(4) = 1; vote(0, 4) = true; stand(4) = 2; vote(1, 4) = true; role(4) = 1; stand(4) = 3; vote(2, 4) = true
                role(4) = 1; vote(0, 4) = true; role(4) = 2
                """);
        Runs.boundary(4, "whatever terms voters have by then", """
                stand(4) = 1; vote(0, 4) = true; 99 * stand(0); term(0) = 100; vote(1, 4) = true; role(4) = 2; term(4) = 1
                """);
        Runs.boundary(4, "whatever terms voters have by then: but its own must be its term", """
                stand(4) = 1; vote(0, 4) = true; 2 * stand(1); vote(1, 4) = false; role(4) = 0; term(4) = 2; vote(2, 1) = true
                stand(4) = 3; vote(2, 4) = true; role(4) = 1
                """);
        Runs.boundary(4, "3 votes: a refused one is none", LEADER_0, """
                propose(0, 0, 1, 1) = 0; tell(0, 1) = 1; 2 * stand(4); vote(0, 4) = false; vote(1, 4) = false; vote(2, 4) = true
                role(4) = 1; vote(3, 4) = true; role(4) = 2
                """);
    }

    private static void voteRefused() {
        Runs.boundary(4, "IndexOutOfBoundsException if there is no such bakery: ahead of the others", """
                part(1) = 4
                vote(5, 5) = throws.IndexOutOfBoundsException; vote(-1, -1) = throws.IndexOutOfBoundsException
                vote(5, 0) = throws.IndexOutOfBoundsException; vote(0, 5) = throws.IndexOutOfBoundsException
                stand(0) = 1; vote(-1, 0) = throws.IndexOutOfBoundsException; vote(0, -1) = throws.IndexOutOfBoundsException
                """);
        Runs.boundary(4, "IllegalArgumentException if both are the same: ahead of IllegalStateException", """
                vote(0, 0) = throws.IllegalArgumentException; vote(4, 4) = throws.IllegalArgumentException; stand(4) = 1
                vote(4, 4) = throws.IllegalArgumentException; votedFor(4) = 4
                """);
        Runs.boundary(4, "IllegalStateException if the candidate is no CANDIDATE: a FOLLOWER", "stand(1) = 1; vote(1, 0) = throws.IllegalStateException");
        Runs.boundary(4, "IllegalStateException if the candidate is no CANDIDATE: a LEADER", LEADER_0,
                "vote(3, 0) = throws.IllegalStateException; vote(1, 0) = throws.IllegalStateException; votedFor(3) = -1");
        Runs.boundary(4, "IllegalStateException if the candidate is no CANDIDATE: one no more", """
                stand(0) = 1; 2 * stand(1); vote(1, 0) = false; vote(2, 0) = throws.IllegalStateException; vote(2, 1) = true
                """);
        Runs.boundary(4, "or they do not reach one another", """
                stand(0) = 1; part(1) = 4; vote(1, 0) = throws.IllegalStateException; part(30) = 4
                vote(1, 0) = throws.IllegalStateException; vote(4, 0) = throws.IllegalStateException; part(17) = 6
                vote(1, 0) = throws.IllegalStateException; vote(4, 0) = true
                """);
        // A voter of a greater term that is not reached tells nothing of it.
        Runs.boundary(4, "or they do not reach one another: nobody takes a term", """
                stand(0) = 1; 3 * stand(1); part(2) = 4; vote(1, 0) = throws.IllegalStateException; term(0) = 1; role(0) = 1
                vote(0, 1) = throws.IllegalStateException; term(0) = 1; role(1) = 1
                """);
    }

    // ---- promise 5

    private static void proposeRanges() {
        bakery(5, "propose(?, 0, 1, 1)", LEADER_0, "propose(0, 0, 1, 1) = 0;" + THEN_LEADER_4 + "propose(4, 0, 1, 1) = 1");
        Runs.range(5, "recipe", 0, 5, "propose(0, ?, 1, 1)", INDEX, BUSY, "propose(0, 0, 1, 1) = 2; propose(0, 5, 1, 1) = 3");
        Runs.range(5, "bags", 1, 9, "propose(0, 0, ?, 1)", ARGUMENT, BUSY, "propose(0, 0, 1, 1) = 2; propose(0, 0, 9, 1) = 3");
        Runs.range(5, "loaves", 1, 40, "propose(0, 0, 1, ?)", ARGUMENT, BUSY, "propose(0, 0, 1, 1) = 2; propose(0, 0, 1, 40) = 3");
        Runs.boundary(5, "bags: 1 to 9; loaves: 1 to 40; in what is made of them", LEADER_0, Scenes.FLOUR_0, """
                propose(0, 0, 1, 40) = 0; propose(0, 5, 9, 1) = 1; tell(0, 1) = 2; tell(0, 2) = 2; book(0, 0, 0) = 0
                book(0, 1, 5) = 1; pass(1) = 1; store(0) = 19; pass(1) = 1; store(0) = 10; left(0) = 40; left(1) = 1
                """);
        Runs.boundary(5, "it is put at the end of its log, and is of its term; of 100", LEADER_OF_TERM_100,
                "propose(0, 0, 1, 1) = 0; termOf(0) = 100; propose(0, 0, 1, 1) = 1; versionAt(0, 1) = 1; termOf(1) = 100");
    }

    private static void proposeFull() {
        Runs.boundary(5, "its log has 20 versions", LEADER_0, """
                19 * propose(0, 0, 1, 1); entries(0) = 19; propose(0, 0, 1, 1) = 19; entries(0) = 20
                propose(0, 0, 1, 1) = throws.IllegalStateException; entries(0) = 20; versions() = 20; versionAt(0, 19) = 19
                """);
        // It was filled by another leader.
        Runs.boundary(5, "its log has 20 versions", LEADER_0, """
                20 * propose(0, 0, 1, 1); tell(0, 1) = 20; stand(1) = 2; vote(2, 1) = true; vote(3, 1) = true; role(1) = 2
                propose(1, 0, 1, 1) = throws.IllegalStateException; versions() = 20
                """);
        // A full log that is cut takes versions again.
        Runs.boundary(5, "A log is a row of at most 20 versions", LEADER_0, "20 * propose(0, 0, 1, 1)", THEN_LEADER_4, """
                propose(4, 0, 1, 1) = 20; tell(4, 0) = 1; entries(0) = 1; 2 * stand(0); vote(1, 0) = true; vote(2, 0) = true
                propose(0, 0, 1, 1) = 21; versionAt(0, 0) = 20; versionAt(0, 1) = 21; holders(0) = 0
                """);
        Runs.boundary(5, "or there are 60: its log has room", Scenes.SIXTY_VERSIONS, """
                versions() = 60; entries(3) = 11; propose(3, 0, 1, 1) = throws.IllegalStateException; versions() = 60; entries(3) = 11
                """);
        Runs.boundary(5, "or there are 60: and its log is full, too", Scenes.SIXTY_VERSIONS,
                "role(2) = 2; entries(2) = 20; propose(2, 0, 1, 1) = throws.IllegalStateException");
        // Versions that no log has count, too.
        Runs.boundary(5, "or there are 60: also those that are in no log", Scenes.SIXTY_VERSIONS, """
                tell(3, 0) = 11; tell(3, 1) = 11; holders(0) = 0; holders(29) = 0; versions() = 60
                propose(3, 0, 1, 1) = throws.IllegalStateException
                """);
    }

    private static void proposeRefused() {
        Runs.boundary(5, "IndexOutOfBoundsException if there is no such bakery or recipe: ahead of the others", LEADER_0, """
                propose(5, 0, 0, 1) = throws.IndexOutOfBoundsException; propose(-1, 0, 1, 41) = throws.IndexOutOfBoundsException
                propose(0, 6, 10, 1) = throws.IndexOutOfBoundsException; propose(0, -1, 1, 0) = throws.IndexOutOfBoundsException
                propose(1, 6, 1, 1) = throws.IndexOutOfBoundsException; propose(1, 6, 0, 0) = throws.IndexOutOfBoundsException
                propose(5, 6, 0, 41) = throws.IndexOutOfBoundsException
                """);
        Runs.boundary(5, "IllegalArgumentException if bags or loaves is out of range: ahead of IllegalStateException", LEADER_0, """
                propose(1, 0, 0, 1) = throws.IllegalArgumentException; propose(1, 0, 1, 41) = throws.IllegalArgumentException
                propose(1, 0, 10, 0) = throws.IllegalArgumentException; 20 * propose(0, 0, 1, 1)
                propose(0, 0, 10, 1) = throws.IllegalArgumentException; propose(0, 0, 1, 0) = throws.IllegalArgumentException
                """);
        Runs.boundary(5, "IllegalArgumentException ...: ahead of IllegalStateException, of 60 versions", Scenes.SIXTY_VERSIONS, """
                propose(3, 0, 0, 1) = throws.IllegalArgumentException; propose(3, 6, 1, 1) = throws.IndexOutOfBoundsException
                """);
        Runs.boundary(5, "IllegalStateException if it is no LEADER", LEADER_0, """
                propose(1, 0, 1, 1) = throws.IllegalStateException; stand(1) = 2; propose(1, 0, 1, 1) = throws.IllegalStateException
                propose(0, 0, 1, 1) = 0; stand(0) = 2; propose(0, 0, 1, 1) = throws.IllegalStateException; versions() = 1
                """);
    }

    // ---- promise 6

    private static void tellByTerm() {
        bakery(6, "tell(?, 1)", LEADER_0, "tell(0, 1) = 0;" + THEN_LEADER_4 + "tell(4, 1) = 0");
        bakery(6, "tell(0, ?)", LEADER_0, "tell(0, 4) = 0;" + THEN_LEADER_4 + "tell(4, 0) = 0");
        String greater = "if the other one's term is greater, the leader takes it, and that is all";
        Runs.boundary(6, greater, LEADER_0, """
                propose(0, 0, 1, 1) = 0; stand(1) = 2; tell(0, 1) = -1; role(0) = 0; term(0) = 2; votedFor(0) = -1
                role(1) = 1; entries(1) = 0
                """);
        Runs.boundary(6, greater, LEADER_0, """
                propose(0, 0, 1, 1) = 0; 99 * stand(1); tell(0, 1) = -1; role(0) = 0; term(0) = 100; votedFor(0) = -1
                stand(0) = throws.IllegalStateException; tell(0, 1) = throws.IllegalStateException; role(1) = 1; votedFor(1) = 1
                """);
        // Nothing is taken away from a log that differs.
        Runs.boundary(6, greater, Scenes.RIVALS, "tell(4, 0) = -1; role(4) = 0; term(4) = 3; versionAt(0, 0) = 0; holders(0) = 7; holders(1) = 16");
        Runs.boundary(6, "the same term: nobody takes one, votes are kept", LEADER_0,
                "tell(0, 1) = 0; term(1) = 1; votedFor(1) = 0; role(0) = 2; term(0) = 1; votedFor(0) = 0");
        String less = "If it is less, the other one takes the leader's";
        Runs.boundary(6, less, LEADER_0, "tell(0, 3) = 0; term(3) = 1; votedFor(3) = -1; role(3) = 0");
        Runs.boundary(6, less, "stand(3) = 1;" + LEADER_OF_TERM_100, "tell(0, 3) = 0; term(3) = 100; votedFor(3) = -1; role(3) = 0");
        Runs.boundary(6, less + ": a LEADER, too", LEADER_0, THEN_LEADER_4, "tell(4, 0) = 0; role(0) = 0; term(0) = 2; votedFor(0) = -1");
        Runs.boundary(6, "a CANDIDATE of the same term is a FOLLOWER then", LEADER_0,
                "stand(3) = 1; tell(0, 3) = 0; role(3) = 0; term(3) = 1; votedFor(3) = 3; vote(4, 3) = throws.IllegalStateException");
        Runs.boundary(6, "a CANDIDATE of a lesser term is a FOLLOWER, without a vote", "stand(3) = 1; 2 * stand(0); vote(1, 0) = true",
                "vote(2, 0) = true; tell(0, 3) = 0; role(3) = 0; term(3) = 2; votedFor(3) = -1");
    }

    private static void tellByLog() {
        Runs.boundary(6, "both logs are empty", LEADER_0, "tell(0, 1) = 0; entries(0) = 0; entries(1) = 0");
        Runs.boundary(6, "the other one's log is empty", LEADER_0, "propose(0, 0, 1, 1) = 0; tell(0, 1) = 1; entries(1) = 1; versionAt(1, 0) = 0");
        // Bakery 3 may lead without a version, for 4 and 2 have none; there is no place at which both have one.
        Runs.boundary(6, "the leader's log is empty: nothing is taken away", LEADER_0, """
                2 * propose(0, 0, 1, 1); 2 * stand(3); vote(4, 3) = true; vote(2, 3) = true; tell(3, 0) = 0; entries(0) = 2
                versionAt(0, 1) = 1; role(0) = 0; term(0) = 2
                """);
        Runs.boundary(6, "both logs are the same", LEADER_0, "2 * propose(0, 0, 1, 1); tell(0, 1) = 2; tell(0, 1) = 0; entries(1) = 2");
        Runs.boundary(6, "the versions that the leader's log has behind the end of the other one's log", LEADER_0, """
                propose(0, 0, 1, 1) = 0; tell(0, 1) = 1; propose(0, 0, 1, 1) = 1; tell(0, 1) = 1; 3 * propose(0, 0, 1, 1)
                tell(0, 1) = 3; versionAt(1, 2) = 2; versionAt(1, 3) = 3; versionAt(1, 4) = 4
                """);
        Runs.boundary(6, "no place at which both differ: the other one's is longer by one and keeps it", LEADER_0, """
                propose(0, 0, 1, 1) = 0; tell(0, 2) = 1; propose(0, 0, 1, 1) = 1; tell(0, 1) = 2; stand(2) = 2; vote(3, 2) = true
                vote(4, 2) = true; tell(2, 1) = 0; entries(1) = 2; versionAt(1, 1) = 1; holders(1) = 3
                """);
        Runs.boundary(6, "all versions ... from the first such place on: the place 0, a single one", LEADER_0,
                "propose(0, 0, 1, 1) = 0", THEN_LEADER_4, "propose(4, 0, 1, 1) = 1; tell(4, 0) = 1; entries(0) = 1; versionAt(0, 0) = 1; holders(0) = 0");
        Runs.boundary(6, "all versions ... from the first such place on: the place 0 of more", LEADER_0,
                "3 * propose(0, 0, 1, 1)", THEN_LEADER_4, """
                2 * propose(4, 0, 1, 1); tell(4, 0) = 2; entries(0) = 2; versionAt(0, 0) = 3; versionAt(0, 1) = 4
                holders(0) = 0; holders(1) = 0; holders(2) = 0
                """);
        // Both have version 0 at the place 0; at the place 1 they differ.
        String differ = LEADER_0 + """
                propose(0, 0, 1, 1) = 0; tell(0, 1) = 1; 2 * propose(0, 0, 1, 1); stand(1) = 2; vote(2, 1) = true; vote(3, 1) = true
                propose(1, 0, 1, 1) = 3
                """;
        Runs.boundary(6, "all versions ... from the first such place on: not those before", differ, """
                tell(1, 0) = 1; entries(0) = 2; versionAt(0, 0) = 0; versionAt(0, 1) = 3; holders(0) = 3; holders(1) = 0; holders(2) = 0
                holders(3) = 3
                """);
        Runs.boundary(6, "all versions ... from the first such place on: the last place", differ,
                "tell(1, 0) = 1; propose(1, 0, 1, 1) = 4; tell(1, 0) = 1; entries(0) = 3; versionAt(0, 2) = 4");
    }

    private static void tellFull() {
        Runs.boundary(6, "A log is a row of at most 20 versions: 20 are put into an empty one", LEADER_0,
                "20 * propose(0, 0, 1, 1); tell(0, 3) = 20; entries(3) = 20; versionAt(3, 0) = 0; versionAt(3, 19) = 19; tell(0, 3) = 0");
        Runs.boundary(6, "... the 20th is put", LEADER_0,
                "19 * propose(0, 0, 1, 1); tell(0, 3) = 19; propose(0, 0, 1, 1) = 19; tell(0, 3) = 1; entries(3) = 20; holders(19) = 9");
        Runs.boundary(6, "... 20 are taken away, and 20 are put", LEADER_0, "20 * propose(0, 0, 1, 1)", THEN_LEADER_4,
                "20 * propose(4, 0, 1, 1); tell(4, 0) = 20; versionAt(0, 0) = 20; versionAt(0, 19) = 39; holders(19) = 0; holders(39) = 17");
        Runs.boundary(6, "... of 60 versions, the last is put", Scenes.SIXTY_VERSIONS,
                "tell(3, 4) = 10; versionAt(4, 10) = 59; holders(59) = 24; tell(3, 2) = 10; entries(2) = 11; isHeld(59) = true; holders(49) = 0");
    }

    private static void tellRefused() {
        Runs.boundary(6, "IndexOutOfBoundsException if there is no such bakery: ahead of the others", LEADER_0, """
                part(1) = 4; tell(5, 5) = throws.IndexOutOfBoundsException; tell(-1, -1) = throws.IndexOutOfBoundsException
                tell(5, 0) = throws.IndexOutOfBoundsException; tell(1, 5) = throws.IndexOutOfBoundsException
                tell(0, -1) = throws.IndexOutOfBoundsException; tell(-1, 0) = throws.IndexOutOfBoundsException
                """);
        Runs.boundary(6, "IllegalArgumentException if both are the same: ahead of IllegalStateException", LEADER_0,
                "tell(0, 0) = throws.IllegalArgumentException; tell(1, 1) = throws.IllegalArgumentException; tell(4, 4) = throws.IllegalArgumentException");
        Runs.boundary(6, "IllegalStateException if bakery is no LEADER: a FOLLOWER", LEADER_0,
                "tell(1, 0) = throws.IllegalStateException; tell(1, 2) = throws.IllegalStateException");
        Runs.boundary(6, "IllegalStateException if bakery is no LEADER: a CANDIDATE", LEADER_0,
                "3 * stand(4); tell(4, 0) = throws.IllegalStateException; role(0) = 2; stand(0) = 2; tell(0, 1) = throws.IllegalStateException");
        Runs.boundary(6, "or they do not reach one another", LEADER_0, """
                propose(0, 0, 1, 1) = 0; part(1) = 4; tell(0, 1) = throws.IllegalStateException; part(30) = 4
                tell(0, 4) = throws.IllegalStateException; part(17) = 6; tell(0, 1) = throws.IllegalStateException; tell(0, 4) = 1
                """);
        Runs.boundary(6, "or they do not reach one another: nobody takes a term", LEADER_0,
                "5 * stand(1); part(1) = 4; tell(0, 1) = throws.IllegalStateException; role(0) = 2; term(0) = 1");
    }

    // ---- promises 7 to 10

    private static void askBakeries() {
        bakery(7, "role(?)", BUSY, "role(0) = 2; role(4) = 1; role(3) = 0");
        bakery(8, "term(?)", BUSY, "term(0) = 1; term(4) = 1; term(3) = 0");
        bakery(9, "votedFor(?)", BUSY, "votedFor(0) = 0; votedFor(4) = 4; votedFor(3) = -1");
        bakery(10, "reach(?, 0)", BUSY, "reach(0, 0) = true; reach(4, 0) = true");
        bakery(10, "reach(0, ?)", BUSY, "part(1) = 4; reach(0, 0) = true; reach(0, 4) = false");
        bakery(10, "reach(?, 4)", BUSY, "part(1) = 4; reach(0, 4) = false; reach(4, 4) = true");
        Runs.boundary(7, "Returns FOLLOWER, CANDIDATE or LEADER.", "role(2) = 0; stand(2) = 1; role(2) = 1; vote(0, 2) = true",
                "role(2) = 1; vote(1, 2) = true; role(2) = 2; stand(2) = 2; role(2) = 1; 3 * stand(0); vote(2, 0) = true; role(2) = 0");
        Runs.boundary(8, "A bakery has a term, 0 at first; 100 at last", "term(4) = 0; 100 * stand(4); term(4) = 100; vote(0, 4) = true",
                "term(0) = 100; stand(4) = throws.IllegalStateException; term(4) = 100; term(1) = 0");
        Runs.boundary(9, "Returns the bakery; NONE.", "votedFor(0) = -1; stand(0) = 1; votedFor(0) = 0; vote(4, 0) = true; votedFor(4) = 0",
                "2 * stand(4); votedFor(4) = 4; vote(0, 4) = true; votedFor(0) = 4; term(0) = 3");
        Runs.boundary(9, "To take a term ...: has no vote in it", LEADER_0, "2 * stand(3); tell(0, 3) = -1; votedFor(0) = -1; votedFor(1) = 0");
        for (int bakery = 0; bakery < 5; bakery++) {
            Runs.boundary(10, "two bakeries reach one another if they are in the same group: one and the same is",
                    "reach(B, B) = true; part(0) = 0; reach(B, B) = true; part(31) = 0; reach(B, B) = true; part(21) = 6; reach(B, B) = true"
                            .replace("B", String.valueOf(bakery)));
        }
    }

    // ---- promises 11 and 12

    private static void logs() {
        bakery(11, "entries(?)", BUSY, "entries(0) = 2; entries(4) = 0; tell(0, 4) = 2; entries(4) = 2");
        Runs.boundary(11, "A log is a row of at most 20 versions", LEADER_0, """
                entries(0) = 0; entries(4) = 0; 20 * propose(0, 0, 1, 1); entries(0) = 20; tell(0, 4) = 20; entries(4) = 20; entries(3) = 0
                propose(0, 0, 1, 1) = throws.IllegalStateException; entries(0) = 20
                """);
        bakery(12, "versionAt(?, 0)", BUSY, "versionAt(0, 0) = 0; tell(0, 4) = 2; versionAt(4, 0) = 0");
        Runs.range(12, "place", 0, 1, "versionAt(0, ?)", INDEX, BUSY, "versionAt(0, 0) = 0; versionAt(0, 1) = 1");
        Runs.range(12, "place, of a log of 20", 0, 19, "versionAt(3, ?)", INDEX, LEADER_0 + "20 * propose(0, 0, 1, 1); tell(0, 3) = 20",
                "versionAt(3, 0) = 0; versionAt(3, 19) = 19");
        Runs.range(12, "place, of a log of 1", 0, 0, "versionAt(1, ?)", INDEX, LEADER_0 + "propose(0, 0, 1, 1) = 0; tell(0, 1) = 1",
                "versionAt(1, 0) = 0");
        Runs.boundary(12, "or its log has not so many: none", LEADER_0, """
                versionAt(0, 0) = throws.IndexOutOfBoundsException; versionAt(0, -1) = throws.IndexOutOfBoundsException
                versionAt(0, 1) = throws.IndexOutOfBoundsException
                """);
        Runs.boundary(12, "or its log has not so many: by now", LEADER_0, "3 * propose(0, 0, 1, 1); versionAt(0, 2) = 2", THEN_LEADER_4, """
                propose(4, 0, 1, 1) = 3; tell(4, 0) = 1; versionAt(0, 0) = 3; versionAt(0, 1) = throws.IndexOutOfBoundsException
                versionAt(0, 2) = throws.IndexOutOfBoundsException
                """);
        Runs.boundary(12, "no such bakery, and place is below 0", "versionAt(5, -1) = throws.IndexOutOfBoundsException");
    }

    // ---- promises 13 to 17

    private static void versions() {
        Runs.boundary(13, "versions are numbered from 0, at most 60", LEADER_0, "versions() = 0; propose(0, 0, 1, 1) = 0; versions() = 1");
        Runs.boundary(13, "versions are numbered from 0, at most 60", Scenes.SIXTY_VERSIONS,
                "versions() = 60; propose(3, 0, 1, 1) = throws.IllegalStateException; versions() = 60");
        version(14, "termOf", "1", "1");
        version(15, "holders", "7", "7");
        version(16, "isHeld", "true", "true");
        version(17, "wasHeld", "true", "true");
        sixty(14, "termOf", "termOf(0) = 1; termOf(59) = 4");
        sixty(15, "holders", "holders(0) = 1; holders(59) = 8; tell(3, 0) = 11; holders(0) = 0; holders(59) = 9");
        sixty(16, "isHeld", "isHeld(0) = false; isHeld(30) = true; isHeld(59) = false; 2 * tell(3, 0); tell(3, 4) = 10; isHeld(59) = true");
        sixty(17, "wasHeld", "wasHeld(0) = false; wasHeld(30) = true; wasHeld(59) = false; 2 * tell(3, 0); tell(3, 4) = 10; wasHeld(59) = true");
        Runs.boundary(14, "the term of which a version is: of 1 and of 100", LEADER_0,
                "propose(0, 0, 1, 1) = 0; 99 * stand(0); vote(1, 0) = true; vote(2, 0) = true; propose(0, 0, 1, 1) = 1; termOf(0) = 1; termOf(1) = 100");
    }

    private static void version(int promise, String name, String lowest, String highest) {
        Runs.range(promise, "a version", 0, 1, name + "(?)", INDEX, BUSY, name + "(0) = " + lowest + ";" + name + "(1) = " + highest);
        Runs.boundary(promise, "if there is no such version: none", LEADER_0, name + "(0) = throws.IndexOutOfBoundsException",
                name + "(-1) = throws.IndexOutOfBoundsException; propose(0, 0, 1, 1) = 0;" + name + "(0)");
    }

    private static void sixty(int promise, String name, String inside) {
        Runs.range(promise, "a version, of 60", 0, 59, name + "(?)", INDEX, Scenes.SIXTY_VERSIONS, inside);
    }

    private static void holders() {
        String sentence = "Returns the set, bit b for the bakery b.";
        Runs.boundary(15, sentence, LEADER_0, """
                propose(0, 0, 1, 1) = 0; holders(0) = 1; tell(0, 4) = 1; holders(0) = 17; tell(0, 1) = 1; holders(0) = 19
                tell(0, 3) = 1; holders(0) = 27; tell(0, 2) = 1; holders(0) = 31
                """);
        Runs.boundary(15, sentence + " Of none", LEADER_0, "propose(0, 0, 1, 1) = 0", THEN_LEADER_4,
                "propose(4, 0, 1, 1) = 1; tell(4, 0) = 1; holders(0) = 0; holders(1) = 17");
    }

    private static void held() {
        String sentence = "A version is held while 3 bakeries or more have it in their logs.";
        Runs.boundary(16, sentence, LEADER_0, """
                propose(0, 0, 1, 1) = 0; isHeld(0) = false; tell(0, 3) = 1; isHeld(0) = false; tell(0, 4) = 1; isHeld(0) = true
                tell(0, 1) = 1; isHeld(0) = true; tell(0, 2) = 1; isHeld(0) = true
                """);
        // 4 have it, then 3, then 2.
        Runs.boundary(16, sentence, Scenes.RIVALS, "tell(0, 3) = 1; holders(0) = 15", Scenes.LEADER_4,
                "tell(4, 1) = 1; holders(0) = 13; isHeld(0) = true; tell(4, 2) = 1; holders(0) = 9; isHeld(0) = false; isHeld(1) = true");
        String was = "Tells whether a version was held at some time, now included.";
        Runs.boundary(17, was, LEADER_0, """
                propose(0, 0, 1, 1) = 0; wasHeld(0) = false; tell(0, 3) = 1; wasHeld(0) = false; tell(0, 4) = 1; wasHeld(0) = true
                """);
        Runs.boundary(17, was, Scenes.RIVALS, Scenes.OVERTHROW, "isHeld(0) = false; wasHeld(0) = true; wasHeld(1) = false; isHeld(1) = false");
        Runs.boundary(17, was + " By none now", Scenes.RIVALS, Scenes.OVERTHROW, "tell(4, 0) = 1; tell(4, 2) = 1; holders(0) = 0; wasHeld(0) = true");
        // Two had it, and none was enough.
        Runs.boundary(17, was + " Never", LEADER_0, "propose(0, 0, 1, 1) = 0; tell(0, 1) = 1", THEN_LEADER_4,
                "propose(4, 0, 1, 1) = 1; tell(4, 0) = 1; wasHeld(0) = false; tell(4, 1) = 1; wasHeld(0) = false; wasHeld(1) = true");
    }

    // ---- promise 18

    private static void current() {
        bakery(18, "current(?, 0)", BUSY, "current(0, 0) = 0; current(4, 0) = -1; tell(0, 4) = 2; current(4, 0) = 0");
        Runs.range(18, "recipe", 0, 5, "current(0, ?)", INDEX, BUSY, "current(0, 0) = 0; current(0, 5) = 1; current(0, 4) = -1");
        Runs.boundary(18, "no such bakery and no such recipe", BUSY, "current(5, 6) = throws.IndexOutOfBoundsException");
        String sentence = "the last one of this recipe in its log that is held now";
        Runs.boundary(18, sentence + ": an empty log", LEADER_0, "current(0, 0) = -1; current(4, 5) = -1");
        Runs.boundary(18, sentence + ": of 3 bakeries, not of 2", LEADER_0,
                "propose(0, 0, 1, 1) = 0; tell(0, 1) = 1; current(0, 0) = -1; current(1, 0) = -1; tell(0, 2) = 1; current(0, 0) = 0; current(2, 0) = 0");
        Runs.boundary(18, sentence + ": the first and the last of 20", LEADER_0, """
                propose(0, 4, 1, 1) = 0; 18 * propose(0, 0, 1, 1); propose(0, 5, 1, 1) = 19; tell(0, 1) = 20; tell(0, 2) = 20
                current(0, 4) = 0; current(0, 0) = 18; current(0, 5) = 19; current(2, 4) = 0; current(2, 5) = 19; current(0, 3) = -1
                """);
        Runs.boundary(18, sentence + ": held by others, not in its log", Scenes.HELD_0, "current(3, 0) = -1; current(4, 0) = -1; tell(0, 3) = 1; current(3, 0) = 0");
        Runs.boundary(18, sentence + ": the last one is not held", Scenes.HELD_0,
                "propose(0, 0, 1, 1) = 1; tell(0, 1) = 1; current(0, 0) = 0; current(1, 0) = 0; tell(0, 2) = 1; current(0, 0) = 1");
        Runs.boundary(18, sentence + ": held no more", Scenes.RIVALS, "current(0, 0) = 0", Scenes.OVERTHROW, "current(0, 0) = -1; current(2, 0) = -1");
        Runs.boundary(18, sentence + ": of 60 versions", Scenes.SIXTY_VERSIONS,
                "current(3, 5) = -1; current(3, 0) = 30; tell(3, 4) = 10; tell(3, 0) = 11; current(3, 5) = 59; current(0, 5) = 59; current(2, 0) = 30");
    }
}
