/** Promises 1 to 18: a new object, groups, terms and votes, logs and versions. */
public final class AgreementTest {
    private static final String LEADER_0 = Scenes.LEADER_0;
    private static final String HELD_0 = Scenes.HELD_0;

    public static void main(String[] args) {
        newObject();
        part();
        stand();
        voteByTerm();
        voteOnce();
        voteByLog();
        voteRefused();
        propose();
        proposeWithoutRoom();
        tellTerms();
        tellLogs();
        tellRefused();
        rolesTermsAndVotes();
        reach();
        logs();
        held();
        current();
        Runs.end(1, 18);
    }

    private static void newObject() {
        StringBuilder rows = new StringBuilder("""
                time() = 0; versions() = 0; batches() = 0; recalls() = 0; stopped() = 0; onSale() = 0
                termOf(0) = throws.IndexOutOfBoundsException
                traced(0) = throws.IndexOutOfBoundsException
                left(0) = throws.IndexOutOfBoundsException
                why(0) = throws.IndexOutOfBoundsException
                """);
        for (int bakery = 0; bakery < 5; bakery++) {
            rows.append("""
                    role(B) = 0; term(B) = 0; votedFor(B) = -1; entries(B) = 0; store(B) = 0; missed(B) = 0
                    booked(B, 0) = -1; booked(B, 50) = -1; current(B, 0) = -1; current(B, 5) = -1
                    reach(B, 0) = true; reach(B, 4) = true
                    """.replace("B", String.valueOf(bakery)));
        }
        Runs.promise(1, rows.toString());
        Runs.promise(1, "addLot() = 0; stand(4) = 1; pass(1) = 0; time() = 1");
    }

    private static void part() {
        Runs.promise(2, """
                part(0) = 0; part(31) = 0; part(1) = 4; part(16) = 4; part(3) = 6; part(20) = 6; part(7) = 6; part(26) = 6
                part(15) = 4; part(30) = 4
                """);
        Runs.promise(2, "part(3) = 6; reach(0, 1) = true; part(4) = 4; reach(0, 1) = true; reach(0, 3) = true; reach(0, 2) = false");
        Runs.promise(2, """
                part(5) = 6
                part(-1) = throws.IllegalArgumentException
                part(32) = throws.IllegalArgumentException
                part(-2147483648) = throws.IllegalArgumentException
                part(2147483647) = throws.IllegalArgumentException
                reach(0, 2) = true; reach(0, 1) = false
                """);
    }

    private static void stand() {
        Runs.promise(3, "stand(0) = 1; role(0) = 1; term(0) = 1; votedFor(0) = 0; term(1) = 0; role(1) = 0; votedFor(1) = -1");
        Runs.promise(3, "stand(4) = 1; stand(4) = 2; stand(4) = 3; votedFor(4) = 4; role(4) = 1");
        Runs.promise(3, LEADER_0, "stand(0) = 2; role(0) = 1; votedFor(0) = 0; stand(1) = 2; role(1) = 1; votedFor(1) = 1");
        // Votes of an earlier term do not count in the new one.
        Runs.promise(3, """
                stand(0) = 1; vote(1, 0) = true; stand(0) = 2; vote(2, 0) = true; role(0) = 1
                vote(1, 0) = true; role(0) = 2
                """);
        Runs.promise(3, """
                stand(2) = 1
                stand(-1) = throws.IndexOutOfBoundsException
                stand(5) = throws.IndexOutOfBoundsException
                99 * stand(2); term(2) = 100
                stand(2) = throws.IllegalStateException
                stand(5) = throws.IndexOutOfBoundsException
                term(2) = 100; role(2) = 1; votedFor(2) = 2
                stand(3) = 1; vote(2, 3) = false; term(3) = 100; stand(3) = throws.IllegalStateException; role(3) = 0
                vote(3, 2) = true; vote(0, 2) = true; role(2) = 2; stand(2) = throws.IllegalStateException
                """);
    }

    private static void voteByTerm() {
        // A voter of a greater term: the candidate takes it, and that is all.
        Runs.promise(4, """
                stand(0) = 1; 2 * stand(1); vote(1, 0) = false
                term(0) = 2; role(0) = 0; votedFor(0) = -1; term(1) = 2; role(1) = 1; votedFor(1) = 1
                vote(0, 1) = true; votedFor(0) = 1
                """);
        Runs.promise(4, """
                2 * stand(4); vote(1, 4) = true; stand(0) = 1; vote(1, 0) = false
                term(0) = 2; role(0) = 0; votedFor(0) = -1; votedFor(1) = 4
                """);
        // The votes of the term that was left are gone.
        Runs.promise(4, """
                stand(0) = 1; vote(1, 0) = true; 2 * stand(2); vote(2, 0) = false; term(0) = 2
                stand(0) = 3; vote(3, 0) = true; role(0) = 1; vote(4, 0) = true; role(0) = 2
                """);
        // A voter of a lesser term takes the candidate's, whatever it was before.
        Runs.promise(4, LEADER_0, "stand(1) = 2; vote(0, 1) = true; role(0) = 0; term(0) = 2; votedFor(0) = 1; role(1) = 1");
        Runs.promise(4, "stand(0) = 1; 2 * stand(1); vote(0, 1) = true; role(0) = 0; term(0) = 2; votedFor(0) = 1");
        // It does so as well if it refuses its vote.
        Runs.promise(4, LEADER_0, """
                propose(0, 0, 1, 1) = 0; stand(1) = 2; vote(0, 1) = false
                term(0) = 2; role(0) = 0; votedFor(0) = -1; role(1) = 1
                """);
    }

    private static void voteOnce() {
        Runs.promise(4, "stand(0) = 1; 4 * vote(1, 0) = true; role(0) = 1; votedFor(1) = 0; vote(4, 0) = true; role(0) = 2");
        Runs.promise(4, LEADER_0, "votedFor(0) = 0; votedFor(1) = 0; votedFor(2) = 0; votedFor(3) = -1; role(0) = 2; term(3) = 0");
        // It has voted for another one, or for itself.
        Runs.promise(4, """
                stand(0) = 1; vote(1, 0) = true; stand(2) = 1; vote(1, 2) = false; votedFor(1) = 0
                vote(0, 2) = false; vote(2, 0) = false; votedFor(0) = 0; votedFor(2) = 2; term(0) = 1; role(0) = 1
                vote(3, 2) = true; vote(4, 2) = true; role(2) = 2; role(0) = 1
                """);
        // In a new term it is free again.
        Runs.promise(4, "stand(0) = 1; vote(1, 0) = true; 2 * stand(2); vote(1, 2) = true; votedFor(1) = 2; term(1) = 2");
        // Whatever terms voters have by then.
        Runs.promise(4, """
                stand(0) = 1; vote(1, 0) = true; stand(1) = 2; stand(1) = 3; vote(2, 0) = true; role(0) = 2; term(0) = 1
                """);
        // A vote stays given, even if the voter's log is better by now, and counts once.
        Runs.promise(4, """
                stand(0) = 1; vote(1, 0) = true
                stand(2) = 1; vote(3, 2) = true; vote(4, 2) = true; propose(2, 0, 1, 1) = 0; tell(2, 1) = 1
                vote(1, 0) = true; role(0) = 1; votedFor(1) = 0; term(1) = 1
                """);
    }

    private static void voteByLog() {
        // The same log, and a worse one of the voter.
        Runs.promise(4, HELD_0, "2 * stand(1); vote(2, 1) = true; vote(3, 1) = true; role(1) = 2; votedFor(2) = 1");
        // The voter's is longer, of the same last term; then as long; then the candidate's is longer.
        Runs.promise(4, LEADER_0, """
                propose(0, 0, 1, 1) = 0; tell(0, 1) = 1; tell(0, 3) = 1; propose(0, 0, 1, 1) = 1; tell(0, 2) = 2
                stand(1) = 2; vote(2, 1) = false; vote(0, 1) = false; vote(3, 1) = true; vote(4, 1) = true; role(1) = 2
                stand(2) = 3; vote(0, 2) = true; vote(1, 2) = true; role(2) = 2
                """);
        // A log without versions is the worst.
        Runs.promise(4, LEADER_0, "propose(0, 0, 1, 1) = 0; 2 * stand(3); vote(0, 3) = false; vote(4, 3) = true; vote(1, 3) = true");
        // The greater term of the last version counts, not the length: voter 0 has three of term 1, 4 one of term 2.
        Runs.promise(4, LEADER_0, """
                3 * propose(0, 0, 1, 1); 2 * stand(4); vote(2, 4) = true; vote(3, 4) = true; propose(4, 0, 1, 1) = 3
                stand(4) = 3; vote(0, 4) = true; term(0) = 3; 2 * stand(0); vote(4, 0) = false; term(4) = 5; votedFor(4) = -1; role(4) = 0
                """);
        // It is the last version's term, not the bakery's.
        Runs.promise(4, LEADER_0, """
                propose(0, 0, 1, 1) = 0; 5 * stand(1); stand(0) = 2; vote(1, 0) = false; term(0) = 6
                stand(0) = 7; vote(1, 0) = true; votedFor(1) = 0
                """);
    }

    private static void voteRefused() {
        Runs.promise(4, """
                stand(0) = 1
                vote(5, 0) = throws.IndexOutOfBoundsException
                vote(-1, 0) = throws.IndexOutOfBoundsException
                vote(0, 5) = throws.IndexOutOfBoundsException
                vote(0, -1) = throws.IndexOutOfBoundsException
                vote(5, 5) = throws.IndexOutOfBoundsException
                vote(0, 0) = throws.IllegalArgumentException
                vote(1, 1) = throws.IllegalArgumentException
                vote(0, 1) = throws.IllegalStateException
                part(1) = 4
                vote(1, 0) = throws.IllegalStateException
                part(3) = 6; vote(1, 0) = true; vote(2, 0) = throws.IllegalStateException
                part(0) = 0; vote(2, 0) = true; role(0) = 2
                vote(3, 0) = throws.IllegalStateException
                vote(1, 0) = throws.IllegalStateException
                """);
        // A candidate that is one no more.
        Runs.promise(4, """
                stand(0) = 1; stand(1) = 1; vote(2, 1) = true; vote(3, 1) = true; tell(1, 0) = 0; role(0) = 0
                vote(4, 0) = throws.IllegalStateException; votedFor(0) = 0
                """);
    }

    private static void propose() {
        Runs.promise(5, LEADER_0, """
                propose(0, 0, 1, 1) = 0; propose(0, 5, 9, 40) = 1; versions() = 2; entries(0) = 2; versionAt(0, 0) = 0
                versionAt(0, 1) = 1; termOf(1) = 1; holders(1) = 1; isHeld(1) = false; entries(1) = 0
                """);
        Runs.promise(5, LEADER_0, """
                propose(0, 0, 1, 1) = 0
                propose(-1, 0, 1, 1) = throws.IndexOutOfBoundsException
                propose(5, 0, 0, 0) = throws.IndexOutOfBoundsException
                propose(0, -1, 1, 1) = throws.IndexOutOfBoundsException
                propose(0, 6, 0, 0) = throws.IndexOutOfBoundsException
                propose(1, 6, 1, 1) = throws.IndexOutOfBoundsException
                propose(0, 0, 0, 1) = throws.IllegalArgumentException
                propose(0, 0, 10, 1) = throws.IllegalArgumentException
                propose(0, 0, 1, 0) = throws.IllegalArgumentException
                propose(0, 0, 1, 41) = throws.IllegalArgumentException
                propose(0, 0, -2147483648, 2147483647) = throws.IllegalArgumentException
                propose(1, 0, 0, 1) = throws.IllegalArgumentException
                propose(1, 0, 1, 1) = throws.IllegalStateException
                stand(3) = 1; propose(3, 0, 1, 1) = throws.IllegalStateException
                versions() = 1
                """);
        // What it tells, seen in what is made of it.
        Runs.promise(5, LEADER_0, Scenes.FLOUR_0, """
                propose(0, 3, 9, 40) = 0; tell(0, 3) = 1; tell(0, 4) = 1; book(0, 0, 3) = 0; pass(1) = 1
                store(0) = 11; left(0) = 40
                """);
        // Each version is of the term in which it was proposed.
        Runs.promise(5, LEADER_0, """
                propose(0, 0, 1, 1) = 0; 4 * stand(0); vote(1, 0) = true; vote(2, 0) = true; propose(0, 0, 1, 1) = 1
                termOf(0) = 1; termOf(1) = 5; versionAt(0, 1) = 1
                """);
    }

    private static void proposeWithoutRoom() {
        Runs.promise(5, LEADER_0, """
                20 * propose(0, 1, 1, 1); entries(0) = 20
                propose(0, 1, 1, 1) = throws.IllegalStateException
                propose(0, 1, 0, 1) = throws.IllegalArgumentException
                tell(0, 1) = 20; tell(0, 1) = 0; entries(1) = 20; versionAt(1, 19) = 19
                """);
        // 60 versions, with room left in the log of 3.
        Runs.promise(5, LEADER_0, """
                10 * propose(0, 0, 1, 1)
                stand(1) = 2; vote(3, 1) = true; vote(4, 1) = true; 20 * propose(1, 0, 1, 1)
                2 * stand(2); vote(3, 2) = true; vote(4, 2) = true; propose(2, 0, 1, 1) = 30; tell(2, 3) = 1; tell(2, 4) = 1
                19 * propose(2, 0, 1, 1)
                stand(3) = 4; vote(4, 3) = true; vote(0, 3) = true; role(3) = 2; 10 * propose(3, 5, 1, 1)
                versions() = 60; entries(3) = 11; versionAt(3, 10) = 59; termOf(59) = 4; holders(59) = 8
                propose(3, 5, 1, 1) = throws.IllegalStateException
                tell(3, 0) = 11; tell(3, 4) = 10; isHeld(59) = true; current(0, 5) = 59; wasHeld(59) = true
                """);
    }

    private static void tellTerms() {
        // The other one's term is greater: the leader takes it, and that is all.
        Runs.promise(6, LEADER_0, """
                propose(0, 0, 1, 1) = 0; stand(1) = 2; tell(0, 1) = -1
                role(0) = 0; term(0) = 2; votedFor(0) = -1; role(1) = 1; votedFor(1) = 1; entries(1) = 0; entries(0) = 1
                tell(0, 1) = throws.IllegalStateException
                """);
        // It is less: the other one takes the leader's, has no vote in it and is a FOLLOWER.
        Runs.promise(6, """
                stand(4) = 1; 2 * stand(0); vote(1, 0) = true; vote(2, 0) = true
                tell(0, 4) = 0; role(4) = 0; term(4) = 2; votedFor(4) = -1
                tell(0, 3) = 0; role(3) = 0; term(3) = 2; votedFor(3) = -1
                """);
        Runs.promise(6, LEADER_0, """
                2 * stand(4); vote(3, 4) = true; vote(2, 4) = true; role(0) = 2; tell(4, 0) = 0; role(0) = 0; term(0) = 2
                votedFor(0) = -1; role(4) = 2
                """);
        // A CANDIDATE of the same term is a FOLLOWER then, and keeps its vote; a voter keeps its vote, too.
        Runs.promise(6, LEADER_0, """
                stand(3) = 1; tell(0, 3) = 0; role(3) = 0; term(3) = 1; votedFor(3) = 3
                tell(0, 1) = 0; votedFor(1) = 0; role(1) = 0
                """);
        // One that was beaten so stands anew with its own vote alone.
        Runs.promise(6, """
                stand(3) = 1; vote(4, 3) = true; stand(0) = 1; vote(1, 0) = true; vote(2, 0) = true; tell(0, 3) = 0
                stand(3) = 2; vote(4, 3) = true; role(3) = 1; vote(1, 3) = true; role(3) = 2
                """);
    }

    private static void tellLogs() {
        Runs.promise(6, LEADER_0, """
                tell(0, 1) = 0; 3 * propose(0, 0, 1, 1); tell(0, 1) = 3; tell(0, 1) = 0; propose(0, 0, 1, 1) = 3; tell(0, 1) = 1
                versionAt(1, 0) = 0; versionAt(1, 1) = 1; versionAt(1, 2) = 2; versionAt(1, 3) = 3; tell(0, 4) = 4
                """);
        // Without a difference nothing is taken away, even if the other one's log is longer.
        Runs.promise(6, LEADER_0, """
                propose(0, 0, 1, 1) = 0; tell(0, 2) = 1; tell(0, 3) = 1; propose(0, 0, 1, 1) = 1; tell(0, 1) = 2
                stand(2) = 2; vote(3, 2) = true; vote(4, 2) = true; tell(2, 1) = 0; entries(1) = 2; versionAt(1, 1) = 1
                holders(1) = 3; tell(2, 4) = 1
                propose(2, 0, 1, 1) = 2; tell(2, 1) = 1; entries(1) = 2; versionAt(1, 0) = 0; versionAt(1, 1) = 2
                holders(1) = 1; holders(2) = 6
                """);
        // All from the first difference on are taken away, though the leader's log is shorter.
        Runs.promise(6, LEADER_0, """
                5 * propose(0, 0, 1, 1); 2 * stand(4); vote(3, 4) = true; vote(2, 4) = true; propose(4, 0, 1, 1) = 5
                tell(4, 0) = 1; entries(0) = 1; versionAt(0, 0) = 5; holders(0) = 0; holders(4) = 0; holders(5) = 17
                versionAt(0, 1) = throws.IndexOutOfBoundsException
                """);
    }

    private static void tellRefused() {
        Runs.promise(6, LEADER_0, """
                propose(0, 0, 1, 1) = 0; tell(0, 1) = 1
                tell(-1, 0) = throws.IndexOutOfBoundsException
                tell(5, 0) = throws.IndexOutOfBoundsException
                tell(0, -1) = throws.IndexOutOfBoundsException
                tell(0, 5) = throws.IndexOutOfBoundsException
                tell(5, 5) = throws.IndexOutOfBoundsException
                tell(0, 0) = throws.IllegalArgumentException
                tell(1, 1) = throws.IllegalArgumentException
                tell(1, 0) = throws.IllegalStateException
                stand(4) = 1; tell(4, 0) = throws.IllegalStateException
                part(6) = 6
                tell(0, 2) = throws.IllegalStateException
                tell(0, 3) = 1; part(7) = 6; tell(0, 2) = 1; tell(0, 4) = throws.IllegalStateException
                """);
    }

    private static void rolesTermsAndVotes() {
        String outOfRange = """
                (-1) = throws.IndexOutOfBoundsException
                (5) = throws.IndexOutOfBoundsException
                (2147483647) = throws.IndexOutOfBoundsException
                (-2147483648) = throws.IndexOutOfBoundsException
                """;
        Runs.promise(7, LEADER_0, "role(0) = 2; role(1) = 0; stand(4) = 1; role(4) = 1; stand(0) = 2; role(0) = 1",
                outOfRange.replace("(", "role("));
        Runs.promise(8, LEADER_0, "term(0) = 1; term(2) = 1; term(3) = 0; 7 * stand(3); term(3) = 7; vote(0, 3) = true; term(0) = 7",
                outOfRange.replace("(", "term("));
        Runs.promise(9, LEADER_0, """
                votedFor(0) = 0; votedFor(1) = 0; votedFor(3) = -1; 2 * stand(3); vote(1, 3) = true; votedFor(1) = 3
                votedFor(3) = 3; tell(0, 1) = -1; votedFor(0) = -1
                """, outOfRange.replace("(", "votedFor("));
        Runs.promise(11, LEADER_0, "2 * propose(0, 0, 1, 1); tell(0, 4) = 2; entries(0) = 2; entries(4) = 2; entries(1) = 0",
                outOfRange.replace("(", "entries("));
    }

    private static void reach() {
        Runs.promise(10, """
                reach(0, 4) = true; reach(2, 2) = true; part(18) = 6
                reach(1, 4) = true; reach(4, 1) = true; reach(0, 2) = true; reach(3, 2) = true; reach(3, 3) = true; reach(4, 4) = true
                reach(0, 1) = false; reach(1, 0) = false; reach(4, 3) = false; reach(2, 1) = false
                reach(-1, 0) = throws.IndexOutOfBoundsException
                reach(0, -1) = throws.IndexOutOfBoundsException
                reach(5, 0) = throws.IndexOutOfBoundsException
                reach(0, 5) = throws.IndexOutOfBoundsException
                """);
    }

    private static void logs() {
        Runs.promise(12, LEADER_0, """
                3 * propose(0, 0, 1, 1); tell(0, 2) = 3; versionAt(0, 0) = 0; versionAt(2, 2) = 2
                versionAt(0, 3) = throws.IndexOutOfBoundsException
                versionAt(0, -1) = throws.IndexOutOfBoundsException
                versionAt(1, 0) = throws.IndexOutOfBoundsException
                versionAt(5, 0) = throws.IndexOutOfBoundsException
                versionAt(-1, 0) = throws.IndexOutOfBoundsException
                versionAt(0, 2147483647) = throws.IndexOutOfBoundsException
                versionAt(0, -2147483648) = throws.IndexOutOfBoundsException
                """);
        // Versions that no log has any more are versions still.
        Runs.promise(13, LEADER_0, """
                versions() = 0; 2 * propose(0, 0, 1, 1); versions() = 2; tell(0, 1) = 2; versions() = 2
                2 * stand(4); vote(3, 4) = true; vote(2, 4) = true; propose(4, 1, 1, 1) = 2; tell(4, 0) = 1; tell(4, 1) = 1
                versions() = 3; holders(0) = 0; termOf(0) = 1
                """);
        Runs.promise(14, "4 * stand(3); vote(1, 3) = true; vote(2, 3) = true; propose(3, 0, 1, 1) = 0; stand(3) = 5; termOf(0) = 4",
                """
                termOf(1) = throws.IndexOutOfBoundsException
                termOf(-1) = throws.IndexOutOfBoundsException
                termOf(60) = throws.IndexOutOfBoundsException
                """);
        Runs.promise(15, HELD_0, """
                holders(0) = 7; tell(0, 4) = 1; holders(0) = 23; tell(0, 3) = 1; holders(0) = 31
                propose(0, 0, 1, 1) = 1; holders(1) = 1
                holders(2) = throws.IndexOutOfBoundsException
                holders(-1) = throws.IndexOutOfBoundsException
                """);
        Runs.promise(15, Scenes.RIVALS, "holders(0) = 7; holders(1) = 16", Scenes.OVERTHROW,
                "holders(0) = 5; holders(1) = 18; tell(4, 2) = 1; tell(4, 0) = 1; holders(0) = 0; holders(1) = 23");
    }

    private static void held() {
        String none = """
                isHeld(V) = throws.IndexOutOfBoundsException
                isHeld(-1) = throws.IndexOutOfBoundsException
                wasHeld(V) = throws.IndexOutOfBoundsException
                wasHeld(-1) = throws.IndexOutOfBoundsException
                """;
        for (int promise = 16; promise <= 17; promise++) {
            Runs.promise(promise, LEADER_0, """
                    propose(0, 0, 1, 1) = 0; isHeld(0) = false; tell(0, 1) = 1; isHeld(0) = false; wasHeld(0) = false
                    tell(0, 4) = 1; isHeld(0) = true; wasHeld(0) = true; tell(0, 3) = 1; isHeld(0) = true; wasHeld(0) = true
                    """, none.replace("V", "1"));
            Runs.promise(promise, Scenes.RIVALS, "isHeld(0) = true; wasHeld(0) = true; isHeld(1) = false; wasHeld(1) = false",
                    Scenes.OVERTHROW, "isHeld(0) = false; wasHeld(0) = true; isHeld(1) = false; wasHeld(1) = false",
                    "tell(4, 2) = 1; isHeld(0) = false; wasHeld(0) = true; isHeld(1) = true; wasHeld(1) = true",
                    "tell(4, 0) = 1; wasHeld(0) = true", none.replace("V", "2"));
            Runs.promise(promise, Scenes.RIVALS, Scenes.OVERTHROW, Scenes.HELD_AGAIN, "isHeld(0) = true; wasHeld(0) = true");
            // Those that do not reach one another hold it all the same.
            Runs.promise(promise, HELD_0, "part(1) = 4; isHeld(0) = true; wasHeld(0) = true; 3 * stand(0); isHeld(0) = true");
        }
    }

    private static void current() {
        Runs.promise(18, LEADER_0, """
                propose(0, 0, 1, 1) = 0; propose(0, 5, 1, 2) = 1; propose(0, 0, 1, 3) = 2; current(0, 0) = -1
                tell(0, 1) = 3; current(0, 0) = -1; tell(0, 2) = 3; current(0, 0) = 2; current(1, 0) = 2; current(2, 5) = 1
                current(0, 1) = -1; current(3, 0) = -1; current(4, 5) = -1
                propose(0, 0, 1, 4) = 3; current(0, 0) = 2; tell(0, 4) = 4; current(4, 0) = 2; tell(0, 1) = 1; current(1, 0) = 3
                current(2, 0) = 2; current(0, 0) = 3
                current(-1, 0) = throws.IndexOutOfBoundsException
                current(5, 0) = throws.IndexOutOfBoundsException
                current(0, -1) = throws.IndexOutOfBoundsException
                current(0, 6) = throws.IndexOutOfBoundsException
                """);
        Runs.promise(18, Scenes.RIVALS, "current(0, 0) = 0; current(4, 0) = -1", Scenes.OVERTHROW,
                "current(0, 0) = -1; current(1, 0) = -1; tell(4, 2) = 1; current(2, 0) = 1; current(4, 0) = 1; current(0, 0) = -1");
    }
}
