import java.util.Arrays;

/**
 * Five bakeries that agree on recipes, the booking of their ovens, and a recall office.
 *
 * Every row is made once, with the object, and used again: no call makes anything but the exception that it throws.
 */
public final class QuorumBakery {
    public static final int NONE = -1;
    public static final int FOLLOWER = 0, CANDIDATE = 1, LEADER = 2;
    public static final int UNHELD = 1, FLOUR = 2;

    private static final int BAKERIES = 5;
    private static final int MAJORITY = 3;
    private static final int GROUPS = 32;
    private static final int MAX_TERM = 100;
    private static final int MAX_LOG = 20;
    private static final int MAX_VERSIONS = 60;
    private static final int RECIPES = 6;
    private static final int MAX_BAGS_OF_BATCH = 9;
    private static final int MAX_LOAVES = 40;
    private static final int MAX_LOTS = 16;
    private static final int MAX_DELIVERY = 50;
    private static final int MAX_STORE = 200;
    private static final int HOURS_AHEAD = 50;
    private static final int MAX_TIME = 1000;
    private static final int MAX_BATCHES = 60;
    private static final int MAX_CALLS = 512;

    private static final int PART = 0, STAND = 1, VOTE = 2, PROPOSE = 3, TELL = 4;

    private final Agreement agreement = new Agreement();
    private final Agreement anew = new Agreement();
    private final History history = new History();
    private final Recipes recipes = new Recipes();
    private final Flour flour = new Flour();
    private final Ovens ovens = new Ovens();
    private final Batches batches = new Batches();
    private final Recalls recalls = new Recalls();

    public QuorumBakery() {
    }

    // ---- groups, terms and votes

    public int part(int group) throws IllegalArgumentException {
        if (group < 0 || group >= GROUPS) {
            throw new IllegalArgumentException("group is out of range");
        }
        agreement.group = group;
        history.add(PART, group, 0);
        int members = Integer.bitCount(group);
        return members * (BAKERIES - members);
    }

    public int stand(int bakery) throws IndexOutOfBoundsException, IllegalStateException {
        checkBakery(bakery);
        if (agreement.terms[bakery] >= MAX_TERM) {
            throw new IllegalStateException("the term is the last one");
        }
        agreement.becomeCandidate(bakery);
        history.add(STAND, bakery, 0);
        return agreement.terms[bakery];
    }

    public boolean vote(int voter, int candidate)
            throws IndexOutOfBoundsException, IllegalArgumentException, IllegalStateException {
        checkPair(voter, candidate);
        if (agreement.roles[candidate] != CANDIDATE) {
            throw new IllegalStateException("it is no candidate");
        }
        checkReach(voter, candidate);
        history.add(VOTE, voter, candidate);
        return agreement.askForVote(voter, candidate);
    }

    public int propose(int bakery, int recipe, int bags, int loaves)
            throws IndexOutOfBoundsException, IllegalArgumentException, IllegalStateException {
        checkBakery(bakery);
        checkRecipe(recipe);
        if (bags < 1 || bags > MAX_BAGS_OF_BATCH || loaves < 1 || loaves > MAX_LOAVES) {
            throw new IllegalArgumentException("bags or loaves is out of range");
        }
        checkLeader(bakery);
        if (agreement.lengths[bakery] >= MAX_LOG || agreement.versionCount >= MAX_VERSIONS) {
            throw new IllegalStateException("there is no room for a version");
        }
        int version = agreement.addVersion(bakery);
        recipes.note(version, recipe, bags, loaves);
        history.add(PROPOSE, bakery, 0);
        return version;
    }

    public int tell(int bakery, int other)
            throws IndexOutOfBoundsException, IllegalArgumentException, IllegalStateException {
        checkPair(bakery, other);
        checkLeader(bakery);
        checkReach(bakery, other);
        long heldBefore = agreement.held;
        int put = agreement.sendLog(bakery, other);
        history.add(TELL, bakery, other);
        callBackUnheld(heldBefore & ~agreement.held);
        return put;
    }

    public int role(int bakery) throws IndexOutOfBoundsException {
        checkBakery(bakery);
        return agreement.roles[bakery];
    }

    public int term(int bakery) throws IndexOutOfBoundsException {
        checkBakery(bakery);
        return agreement.terms[bakery];
    }

    public int votedFor(int bakery) throws IndexOutOfBoundsException {
        checkBakery(bakery);
        return agreement.votes[bakery];
    }

    public boolean reach(int bakery, int other) throws IndexOutOfBoundsException {
        checkBakery(bakery);
        checkBakery(other);
        return agreement.areTogether(bakery, other);
    }

    // ---- logs and versions

    public int entries(int bakery) throws IndexOutOfBoundsException {
        checkBakery(bakery);
        return agreement.lengths[bakery];
    }

    public int versionAt(int bakery, int place) throws IndexOutOfBoundsException {
        checkBakery(bakery);
        if (place < 0 || place >= agreement.lengths[bakery]) {
            throw new IndexOutOfBoundsException("no such place");
        }
        return agreement.logs[bakery][place];
    }

    public int versions() {
        return agreement.versionCount;
    }

    public int termOf(int version) throws IndexOutOfBoundsException {
        checkVersion(version);
        return agreement.versionTerms[version];
    }

    public int holders(int version) throws IndexOutOfBoundsException {
        checkVersion(version);
        return agreement.holderSets[version];
    }

    public boolean isHeld(int version) throws IndexOutOfBoundsException {
        checkVersion(version);
        return contains(agreement.held, version);
    }

    public boolean wasHeld(int version) throws IndexOutOfBoundsException {
        checkVersion(version);
        return contains(agreement.everHeld, version);
    }

    public int current(int bakery, int recipe) throws IndexOutOfBoundsException {
        checkBakery(bakery);
        checkRecipe(recipe);
        return findCurrent(bakery, recipe);
    }

    // ---- flour and ovens

    public int addLot() throws IllegalStateException {
        if (flour.lotCount >= MAX_LOTS) {
            throw new IllegalStateException("there is no room for a lot");
        }
        flour.lotCount++;
        return flour.lotCount - 1;
    }

    public int deliver(int bakery, int lot, int bags)
            throws IndexOutOfBoundsException, IllegalArgumentException, IllegalStateException {
        checkBakery(bakery);
        checkLot(lot);
        if (bags < 1 || bags > MAX_DELIVERY) {
            throw new IllegalArgumentException("bags is out of range");
        }
        checkGood(lot);
        if (flour.bagCounts[bakery] + bags > MAX_STORE) {
            throw new IllegalStateException("the store has no room");
        }
        flour.bring(bakery, lot, bags);
        return flour.bagCounts[bakery];
    }

    public int condemn(int lot) throws IndexOutOfBoundsException, IllegalStateException {
        checkLot(lot);
        checkGood(lot);
        flour.throwOut(lot);
        return callBackLot(lot);
    }

    public int store(int bakery) throws IndexOutOfBoundsException {
        checkBakery(bakery);
        return flour.bagCounts[bakery];
    }

    public int book(int bakery, int hour, int recipe)
            throws IndexOutOfBoundsException, IllegalArgumentException, IllegalStateException {
        checkBakery(bakery);
        checkRecipe(recipe);
        checkHour(hour);
        if (ovens.slotAt(bakery, hour) != NONE) {
            throw new IllegalStateException("the slot is booked");
        }
        return putCurrent(bakery, hour, recipe);
    }

    public int renew(int bakery, int hour)
            throws IndexOutOfBoundsException, IllegalArgumentException, IllegalStateException {
        checkBakery(bakery);
        checkHour(hour);
        int version = ovens.slotAt(bakery, hour);
        checkBooked(version);
        return putCurrent(bakery, hour, recipes.recipeOf[version]);
    }

    public int free(int bakery, int hour)
            throws IndexOutOfBoundsException, IllegalArgumentException, IllegalStateException {
        checkBakery(bakery);
        checkHour(hour);
        int version = ovens.slotAt(bakery, hour);
        checkBooked(version);
        ovens.setSlot(bakery, hour, NONE);
        return version;
    }

    public int booked(int bakery, int hour) throws IndexOutOfBoundsException, IllegalArgumentException {
        checkBakery(bakery);
        checkHour(hour);
        return ovens.slotAt(bakery, hour);
    }

    public int stopped() {
        int count = 0;
        for (int bakery = 0; bakery < BAKERIES; bakery++) {
            for (int ahead = 0; ahead <= HOURS_AHEAD; ahead++) {
                int version = ovens.slotAt(bakery, ovens.now + ahead);
                if (version != NONE && !contains(agreement.held, version)) {
                    count++;
                }
            }
        }
        return count;
    }

    public int pass(int hours) throws IllegalArgumentException, IllegalStateException {
        if (hours < 1 || hours > HOURS_AHEAD) {
            throw new IllegalArgumentException("hours is out of range");
        }
        if (ovens.now + hours > MAX_TIME) {
            throw new IllegalStateException("the time would be too late");
        }
        int made = 0;
        for (int hour = 0; hour < hours; hour++) {
            made += passHour();
        }
        return made;
    }

    public int time() {
        return ovens.now;
    }

    public int missed(int bakery) throws IndexOutOfBoundsException {
        checkBakery(bakery);
        return ovens.missedCounts[bakery];
    }

    // ---- batches

    public int batches() {
        return batches.count;
    }

    public int versionOf(int batch) throws IndexOutOfBoundsException {
        checkBatch(batch);
        return batches.versionRow[batch];
    }

    public int lotsOf(int batch) throws IndexOutOfBoundsException {
        checkBatch(batch);
        return batches.lotSets[batch];
    }

    public int left(int batch) throws IndexOutOfBoundsException {
        checkBatch(batch);
        return batches.leftRow[batch];
    }

    public int barred(int batch) throws IndexOutOfBoundsException {
        checkBatch(batch);
        return barredUnder(agreement, batch);
    }

    public int barredAnew(int batch) throws IndexOutOfBoundsException {
        checkBatch(batch);
        repeatHistory();
        return barredUnder(anew, batch);
    }

    public int sell(int batch, int count)
            throws IndexOutOfBoundsException, IllegalArgumentException, IllegalStateException {
        checkBatch(batch);
        if (count < 1 || count > MAX_LOAVES) {
            throw new IllegalArgumentException("count is out of range");
        }
        if (barredUnder(agreement, batch) != 0 || batches.leftRow[batch] < count) {
            throw new IllegalStateException("it is barred, or has not so many loaves");
        }
        batches.leftRow[batch] -= count;
        batches.soldRow[batch] += count;
        return batches.leftRow[batch];
    }

    public int onSale() {
        int loaves = 0;
        for (int batch = 0; batch < batches.count; batch++) {
            if (barredUnder(agreement, batch) == 0) {
                loaves += batches.leftRow[batch];
            }
        }
        return loaves;
    }

    public int traced(int lot) throws IndexOutOfBoundsException {
        checkLot(lot);
        int count = 0;
        for (int batch = 0; batch < batches.count; batch++) {
            if (contains(batches.lotSets[batch], lot)) {
                count++;
            }
        }
        return count;
    }

    public int tracedAt(int lot, int place) throws IndexOutOfBoundsException {
        checkLot(lot);
        int seen = 0;
        for (int batch = 0; batch < batches.count; batch++) {
            if (contains(batches.lotSets[batch], lot)) {
                if (seen == place) {
                    return batch;
                }
                seen++;
            }
        }
        throw new IndexOutOfBoundsException("no such place");
    }

    // ---- recalls

    public int recalls() {
        return recalls.count;
    }

    public int recallOf(int recall) throws IndexOutOfBoundsException {
        checkRecall(recall);
        return recalls.batchRow[recall];
    }

    public int calledBack(int recall) throws IndexOutOfBoundsException {
        checkRecall(recall);
        return recalls.loafRow[recall];
    }

    public int why(int recall) throws IndexOutOfBoundsException {
        checkRecall(recall);
        return recalls.reasonRow[recall];
    }

    // ---- what a call needs before it may change anything

    private static void checkBakery(int bakery) {
        if (bakery < 0 || bakery >= BAKERIES) {
            throw new IndexOutOfBoundsException("no such bakery");
        }
    }

    private static void checkPair(int bakery, int other) {
        checkBakery(bakery);
        checkBakery(other);
        if (bakery == other) {
            throw new IllegalArgumentException("both are the same");
        }
    }

    private void checkReach(int bakery, int other) {
        if (!agreement.areTogether(bakery, other)) {
            throw new IllegalStateException("they do not reach one another");
        }
    }

    private void checkLeader(int bakery) {
        if (agreement.roles[bakery] != LEADER) {
            throw new IllegalStateException("it is no leader");
        }
    }

    private static void checkRecipe(int recipe) {
        if (recipe < 0 || recipe >= RECIPES) {
            throw new IndexOutOfBoundsException("no such recipe");
        }
    }

    private void checkVersion(int version) {
        if (version < 0 || version >= agreement.versionCount) {
            throw new IndexOutOfBoundsException("no such version");
        }
    }

    private void checkLot(int lot) {
        if (lot < 0 || lot >= flour.lotCount) {
            throw new IndexOutOfBoundsException("no such lot");
        }
    }

    private void checkGood(int lot) {
        if (contains(flour.condemned, lot)) {
            throw new IllegalStateException("the lot is condemned");
        }
    }

    private void checkHour(int hour) {
        if (hour < ovens.now || hour > ovens.now + HOURS_AHEAD) {
            throw new IllegalArgumentException("hour is out of range");
        }
    }

    private static void checkBooked(int version) {
        if (version == NONE) {
            throw new IllegalStateException("the slot is not booked");
        }
    }

    private void checkBatch(int batch) {
        if (batch < 0 || batch >= batches.count) {
            throw new IndexOutOfBoundsException("no such batch");
        }
    }

    private void checkRecall(int recall) {
        if (recall < 0 || recall >= recalls.count) {
            throw new IndexOutOfBoundsException("no such recall");
        }
    }

    // ---- what several calls share

    private static boolean contains(long set, int member) {
        return (set >>> member & 1L) != 0;
    }

    private int findCurrent(int bakery, int recipe) {
        for (int place = agreement.lengths[bakery] - 1; place >= 0; place--) {
            int version = agreement.logs[bakery][place];
            if (recipes.recipeOf[version] == recipe && contains(agreement.held, version)) {
                return version;
            }
        }
        return NONE;
    }

    private int putCurrent(int bakery, int hour, int recipe) {
        int version = findCurrent(bakery, recipe);
        if (version == NONE) {
            throw new IllegalStateException("the recipe has no current version");
        }
        ovens.setSlot(bakery, hour, version);
        return version;
    }

    private int passHour() {
        int made = 0;
        for (int bakery = 0; bakery < BAKERIES; bakery++) {
            int version = ovens.slotAt(bakery, ovens.now);
            if (version != NONE) {
                if (canBake(bakery, version)) {
                    bake(bakery, version);
                    made++;
                } else {
                    ovens.missedCounts[bakery]++;
                }
                // The slot's place is that of an hour to come as soon as this one is over.
                ovens.setSlot(bakery, ovens.now, NONE);
            }
        }
        ovens.now++;
        return made;
    }

    private boolean canBake(int bakery, int version) {
        return contains(agreement.held, version)
                && flour.bagCounts[bakery] >= recipes.bagsOf[version]
                && batches.count < MAX_BATCHES;
    }

    private void bake(int bakery, int version) {
        int lots = flour.takeFirst(bakery, recipes.bagsOf[version]);
        batches.add(version, lots, recipes.loavesOf[version]);
    }

    private int barredUnder(Agreement judge, int batch) {
        int unheld = contains(judge.held, batches.versionRow[batch]) ? 0 : UNHELD;
        int badFlour = (batches.lotSets[batch] & flour.condemned) == 0 ? 0 : FLOUR;
        return unheld + badFlour;
    }

    private void callBackUnheld(long lost) {
        for (int version = 0; version < agreement.versionCount; version++) {
            if (contains(lost, version)) {
                callBackVersion(version);
            }
        }
    }

    private void callBackVersion(int version) {
        for (int batch = 0; batch < batches.count; batch++) {
            if (batches.versionRow[batch] == version) {
                callBackBatch(batch, UNHELD);
            }
        }
    }

    private int callBackLot(int lot) {
        int loaves = 0;
        for (int batch = 0; batch < batches.count; batch++) {
            if (contains(batches.lotSets[batch], lot)) {
                loaves += callBackBatch(batch, FLOUR);
            }
        }
        return loaves;
    }

    private int callBackBatch(int batch, int reason) {
        int loaves = batches.soldRow[batch];
        if (loaves > 0) {
            batches.soldRow[batch] = 0;
            recalls.write(batch, loaves, reason);
        }
        return loaves;
    }

    private void repeatHistory() {
        anew.begin();
        for (int call = 0; call < history.count; call++) {
            repeatCall(history.kinds[call], history.firsts[call], history.seconds[call]);
        }
    }

    private void repeatCall(int kind, int first, int second) {
        switch (kind) {
            case PART:
                anew.group = first;
                break;
            case STAND:
                anew.becomeCandidate(first);
                break;
            case VOTE:
                anew.askForVote(first, second);
                break;
            case PROPOSE:
                anew.addVersion(first);
                break;
            case TELL:
                anew.sendLog(first, second);
                break;
            default:
                break;
        }
    }

    /**
     * Groups, terms, votes, logs and who holds what, without the tests of arguments: these stand before each call of
     * it, so that the calls of the history, which have passed them, can be done on a second one without them.
     */
    private static final class Agreement {
        int group;
        final int[] terms = new int[BAKERIES];
        final int[] roles = new int[BAKERIES];
        final int[] votes = new int[BAKERIES];
        /** Of a candidate alone: the set of those whose votes it was given in its term. */
        final int[] supporters = new int[BAKERIES];
        final int[][] logs = new int[BAKERIES][MAX_LOG];
        final int[] lengths = new int[BAKERIES];
        int versionCount;
        final int[] versionTerms = new int[MAX_VERSIONS];
        final int[] holderSets = new int[MAX_VERSIONS];
        /** Sets of versions: 60 of them find room in the bits of a long. */
        long held;
        long everHeld;

        Agreement() {
            begin();
        }

        void begin() {
            group = 0;
            Arrays.fill(terms, 0);
            Arrays.fill(roles, FOLLOWER);
            Arrays.fill(votes, NONE);
            Arrays.fill(supporters, 0);
            Arrays.fill(lengths, 0);
            versionCount = 0;
            held = 0L;
            everHeld = 0L;
        }

        boolean areTogether(int bakery, int other) {
            return contains(group, bakery) == contains(group, other);
        }

        void becomeCandidate(int bakery) {
            terms[bakery]++;
            roles[bakery] = CANDIDATE;
            votes[bakery] = bakery;
            supporters[bakery] = 1 << bakery;
        }

        private void takeTerm(int bakery, int newTerm) {
            terms[bakery] = newTerm;
            roles[bakery] = FOLLOWER;
            votes[bakery] = NONE;
        }

        boolean askForVote(int voter, int candidate) {
            if (terms[voter] > terms[candidate]) {
                takeTerm(candidate, terms[voter]);
                return false;
            }
            if (terms[voter] < terms[candidate]) {
                takeTerm(voter, terms[candidate]);
            }
            // A vote that was given stays given, even if the voter's log has become the better one since.
            if (votes[voter] == candidate) {
                return true;
            }
            if (votes[voter] != NONE || hasBetterLog(voter, candidate)) {
                return false;
            }
            giveVote(voter, candidate);
            return true;
        }

        private void giveVote(int voter, int candidate) {
            votes[voter] = candidate;
            supporters[candidate] |= 1 << voter;
            if (Integer.bitCount(supporters[candidate]) >= MAJORITY) {
                roles[candidate] = LEADER;
            }
        }

        private boolean hasBetterLog(int bakery, int other) {
            int last = lastTerm(bakery);
            int otherLast = lastTerm(other);
            return last > otherLast || last == otherLast && lengths[bakery] > lengths[other];
        }

        /** A leader's term is 1 at least, so that 0 puts a log without versions behind all others. */
        private int lastTerm(int bakery) {
            return lengths[bakery] == 0 ? 0 : versionTerms[logs[bakery][lengths[bakery] - 1]];
        }

        int addVersion(int leader) {
            int version = versionCount;
            versionCount++;
            versionTerms[version] = terms[leader];
            holderSets[version] = 0;
            append(leader, version);
            return version;
        }

        int sendLog(int leader, int other) {
            if (terms[other] > terms[leader]) {
                takeTerm(leader, terms[other]);
                return NONE;
            }
            if (terms[other] < terms[leader]) {
                takeTerm(other, terms[leader]);
            } else if (roles[other] == CANDIDATE) {
                roles[other] = FOLLOWER;
            }
            cutAt(other, commonLength(leader, other));
            return copyRest(leader, other);
        }

        /** Where the logs first differ; the length of the other one's log if they do not, for nothing is cut then. */
        private int commonLength(int leader, int other) {
            int shorter = Math.min(lengths[leader], lengths[other]);
            for (int place = 0; place < shorter; place++) {
                if (logs[leader][place] != logs[other][place]) {
                    return place;
                }
            }
            return lengths[other];
        }

        private void cutAt(int bakery, int newLength) {
            for (int place = newLength; place < lengths[bakery]; place++) {
                int version = logs[bakery][place];
                holderSets[version] &= ~(1 << bakery);
                judgeHeld(version);
            }
            lengths[bakery] = newLength;
        }

        private int copyRest(int leader, int other) {
            int put = 0;
            for (int place = lengths[other]; place < lengths[leader]; place++) {
                append(other, logs[leader][place]);
                put++;
            }
            return put;
        }

        private void append(int bakery, int version) {
            logs[bakery][lengths[bakery]] = version;
            lengths[bakery]++;
            holderSets[version] |= 1 << bakery;
            judgeHeld(version);
        }

        private void judgeHeld(int version) {
            long bit = 1L << version;
            if (Integer.bitCount(holderSets[version]) >= MAJORITY) {
                held |= bit;
                everHeld |= bit;
            } else {
                held &= ~bit;
            }
        }
    }

    /** The calls that changed the agreement; those that threw an exception changed nothing and are not in it. */
    private static final class History {
        int count;
        final int[] kinds = new int[MAX_CALLS];
        final int[] firsts = new int[MAX_CALLS];
        final int[] seconds = new int[MAX_CALLS];

        void add(int kind, int first, int second) {
            // An object is used for so many calls only.
            if (count < MAX_CALLS) {
                kinds[count] = kind;
                firsts[count] = first;
                seconds[count] = second;
                count++;
            }
        }
    }

    /** What each version tells. */
    private static final class Recipes {
        final int[] recipeOf = new int[MAX_VERSIONS];
        final int[] bagsOf = new int[MAX_VERSIONS];
        final int[] loavesOf = new int[MAX_VERSIONS];

        void note(int version, int recipe, int bags, int loaves) {
            recipeOf[version] = recipe;
            bagsOf[version] = bags;
            loavesOf[version] = loaves;
        }
    }

    /** The lots and the stores; a store is a row of bags, the oldest first, each the number of its lot. */
    private static final class Flour {
        int lotCount;
        int condemned;
        final int[][] stores = new int[BAKERIES][MAX_STORE];
        final int[] bagCounts = new int[BAKERIES];

        void bring(int bakery, int lot, int bags) {
            int end = bagCounts[bakery] + bags;
            for (int bag = bagCounts[bakery]; bag < end; bag++) {
                stores[bakery][bag] = lot;
            }
            bagCounts[bakery] = end;
        }

        /** The set of the lots of the bags that are taken. */
        int takeFirst(int bakery, int bags) {
            int lots = 0;
            for (int bag = 0; bag < bags; bag++) {
                lots |= 1 << stores[bakery][bag];
            }
            for (int bag = bags; bag < bagCounts[bakery]; bag++) {
                stores[bakery][bag - bags] = stores[bakery][bag];
            }
            bagCounts[bakery] -= bags;
            return lots;
        }

        void throwOut(int lot) {
            condemned |= 1 << lot;
            for (int bakery = 0; bakery < BAKERIES; bakery++) {
                throwOutOf(bakery, lot);
            }
        }

        private void throwOutOf(int bakery, int lot) {
            int kept = 0;
            for (int bag = 0; bag < bagCounts[bakery]; bag++) {
                if (stores[bakery][bag] != lot) {
                    stores[bakery][kept] = stores[bakery][bag];
                    kept++;
                }
            }
            bagCounts[bakery] = kept;
        }
    }

    /** The time, and the slots from it on: no others can be asked for, so that their places are used in turn. */
    private static final class Ovens {
        int now;
        final int[][] slots = new int[BAKERIES][HOURS_AHEAD + 1];
        final int[] missedCounts = new int[BAKERIES];

        Ovens() {
            for (int bakery = 0; bakery < BAKERIES; bakery++) {
                Arrays.fill(slots[bakery], NONE);
            }
        }

        int slotAt(int bakery, int hour) {
            return slots[bakery][hour % (HOURS_AHEAD + 1)];
        }

        void setSlot(int bakery, int hour, int version) {
            slots[bakery][hour % (HOURS_AHEAD + 1)] = version;
        }
    }

    /** The batches; loaves that were sold and called back are neither left nor sold here. */
    private static final class Batches {
        int count;
        final int[] versionRow = new int[MAX_BATCHES];
        final int[] lotSets = new int[MAX_BATCHES];
        final int[] leftRow = new int[MAX_BATCHES];
        final int[] soldRow = new int[MAX_BATCHES];

        void add(int version, int lots, int loaves) {
            versionRow[count] = version;
            lotSets[count] = lots;
            leftRow[count] = loaves;
            soldRow[count] = 0;
            count++;
        }
    }

    /** The recalls: each needs a loaf sold since the last one of its batch, so that calls are more than recalls. */
    private static final class Recalls {
        int count;
        final int[] batchRow = new int[MAX_CALLS];
        final int[] loafRow = new int[MAX_CALLS];
        final int[] reasonRow = new int[MAX_CALLS];

        void write(int batch, int loaves, int reason) {
            if (count < MAX_CALLS) {
                batchRow[count] = batch;
                loafRow[count] = loaves;
                reasonRow[count] = reason;
                count++;
            }
        }
    }
}
