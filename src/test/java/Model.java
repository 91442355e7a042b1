import java.util.ArrayList;
import java.util.Collections;
import java.util.List;
import java.util.Map;
import java.util.Set;
import java.util.TreeMap;
import java.util.TreeSet;
import java.util.function.Consumer;

/**
 * The document once more, slow and by its words: nothing is kept that can be counted anew. It is written apart from the
 * class and shares nothing with it, so that a mistake of one of the two shows as a difference of their answers.
 */
final class Model {
    private record Version(int term, int recipe, int bags, int loaves) { }

    private record Ballot(int candidate, int term) { }

    private record Slot(int bakery, int hour) { }

    private record Recall(int batch, int loaves, int why) { }

    private static final class Bakery {
        int term = 0;
        int role = 0;
        int vote = -1;
        int missed = 0;
        final List<Integer> log = new ArrayList<>();
        final List<Integer> store = new ArrayList<>();
    }

    private static final class Batch {
        int version;
        Set<Integer> lots;
        int loaves;
        int sold;
        int back;
    }

    private Set<Integer> group = Set.of();
    private final List<Bakery> bakeries = new ArrayList<>();
    private final Map<String, Set<Integer>> ballots = new TreeMap<>();
    private final List<Version> versionList = new ArrayList<>();
    private final Set<Integer> onceHeld = new TreeSet<>();
    private final List<Boolean> lotIsGood = new ArrayList<>();
    private final Map<String, Integer> slots = new TreeMap<>();
    private final List<Batch> batchList = new ArrayList<>();
    private final List<Recall> recallList = new ArrayList<>();
    private final List<Consumer<Model>> done = new ArrayList<>();
    private int hour = 0;

    Model() {
        for (int b = 0; b < 5; b++) {
            bakeries.add(new Bakery());
        }
    }

    private static void range(boolean exists) {
        if (!exists) {
            throw new IndexOutOfBoundsException();
        }
    }

    private static void argument(boolean fits) {
        if (!fits) {
            throw new IllegalArgumentException();
        }
    }

    private static void state(boolean allows) {
        if (!allows) {
            throw new IllegalStateException();
        }
    }

    private static boolean isBakery(int b) {
        return List.of(0, 1, 2, 3, 4).contains(b);
    }

    private static boolean isRecipe(int r) {
        return List.of(0, 1, 2, 3, 4, 5).contains(r);
    }

    private boolean isVersion(int v) {
        return 0 <= v && v <= versionList.size() - 1;
    }

    private boolean isLot(int l) {
        return 0 <= l && l <= lotIsGood.size() - 1;
    }

    private boolean isBatch(int b) {
        return 0 <= b && b <= batchList.size() - 1;
    }

    private boolean isRecall(int r) {
        return 0 <= r && r <= recallList.size() - 1;
    }

    private boolean isHour(int h) {
        return h - (long) hour >= 0 && h - (long) hour <= 50;
    }

    private static int bits(Set<Integer> set) {
        int sum = 0;
        for (int member : set) {
            sum += (int) Math.pow(2, member);
        }
        return sum;
    }

    // ---- groups, terms and votes

    public int part(int newGroup) {
        argument(0 <= newGroup && newGroup <= 31);
        done.add(m -> m.part(newGroup));
        Set<Integer> members = new TreeSet<>();
        for (int b = 0; b < 5; b++) {
            if (Integer.toBinaryString(32 + newGroup).charAt(5 - b) == '1') {
                members.add(b);
            }
        }
        group = members;
        int pairs = 0;
        for (int a = 0; a < 5; a++) {
            for (int b = a + 1; b < 5; b++) {
                pairs += reach(a, b) ? 0 : 1;
            }
        }
        return pairs;
    }

    public int stand(int b) {
        range(isBakery(b));
        state(bakeries.get(b).term != 100);
        done.add(m -> m.stand(b));
        Bakery bakery = bakeries.get(b);
        bakery.term += 1;
        bakery.role = 1;
        bakery.vote = b;
        ballots.put(ballot(b, bakery.term), new TreeSet<>(Set.of(b)));
        return bakery.term;
    }

    private static String ballot(int candidate, int term) {
        return new Ballot(candidate, term).toString();
    }

    private void take(int b, int newTerm) {
        Bakery bakery = bakeries.get(b);
        bakery.term = newTerm;
        bakery.role = 0;
        bakery.vote = -1;
    }

    public boolean vote(int v, int c) {
        range(isBakery(v) && isBakery(c));
        argument(v != c);
        state(role(c) == 1 && reach(v, c));
        done.add(m -> m.vote(v, c));
        Bakery voter = bakeries.get(v);
        Bakery candidate = bakeries.get(c);
        if (voter.term > candidate.term) {
            take(c, voter.term);
            return false;
        }
        if (voter.term < candidate.term) {
            take(v, candidate.term);
        }
        Set<Integer> given = ballots.get(ballot(c, candidate.term));
        if (!given.contains(v)) {
            if (voter.vote != -1 || isBetter(voter.log, candidate.log)) {
                return false;
            }
            voter.vote = c;
            given.add(v);
        }
        if (given.size() >= 3) {
            candidate.role = 2;
        }
        return true;
    }

    private boolean isBetter(List<Integer> log, List<Integer> other) {
        if (log.isEmpty()) {
            return false;
        }
        if (other.isEmpty()) {
            return true;
        }
        int last = versionList.get(log.get(log.size() - 1)).term();
        int otherLast = versionList.get(other.get(other.size() - 1)).term();
        return last != otherLast ? last > otherLast : log.size() > other.size();
    }

    public int propose(int b, int recipe, int bags, int loaves) {
        range(isBakery(b) && isRecipe(recipe));
        argument(1 <= bags && bags <= 9 && 1 <= loaves && loaves <= 40);
        state(role(b) == 2);
        state(entries(b) < 20);
        state(versions() < 60);
        done.add(m -> m.propose(b, recipe, bags, loaves));
        versionList.add(new Version(term(b), recipe, bags, loaves));
        bakeries.get(b).log.add(versions() - 1);
        return versions() - 1;
    }

    public int tell(int b, int o) {
        range(isBakery(b) && isBakery(o));
        argument(b != o);
        state(role(b) == 2);
        state(reach(b, o));
        done.add(m -> m.tell(b, o));
        Bakery leader = bakeries.get(b);
        Bakery other = bakeries.get(o);
        if (other.term > leader.term) {
            take(b, other.term);
            return -1;
        }
        if (other.term < leader.term) {
            take(o, leader.term);
        }
        if (other.role == 1) {
            other.role = 0;
        }
        List<Integer> heldBefore = heldNow();
        List<Integer> common = new ArrayList<>();
        boolean differ = false;
        for (int place = 0; place < Math.min(leader.log.size(), other.log.size()) && !differ; place++) {
            differ = !leader.log.get(place).equals(other.log.get(place));
            if (!differ) {
                common.add(other.log.get(place));
            }
        }
        if (differ) {
            other.log.clear();
            other.log.addAll(common);
        }
        int put = 0;
        while (other.log.size() < leader.log.size()) {
            other.log.add(leader.log.get(other.log.size()));
            put++;
        }
        onceHeld.addAll(heldNow());
        for (int version : heldBefore) {
            if (!isHeld(version)) {
                callBack(batch -> batch.version == version, 1);
            }
        }
        return put;
    }

    private List<Integer> heldNow() {
        List<Integer> held = new ArrayList<>();
        for (int v = 0; v < versions(); v++) {
            if (isHeld(v)) {
                held.add(v);
            }
        }
        return held;
    }

    private int callBack(java.util.function.Predicate<Batch> concerned, int why) {
        int all = 0;
        for (Batch batch : batchList) {
            int loaves = batch.sold - batch.back;
            if (concerned.test(batch) && loaves != 0) {
                recallList.add(new Recall(batchList.indexOf(batch), loaves, why));
                batch.back = batch.sold;
                all += loaves;
            }
        }
        return all;
    }

    public int role(int b) {
        range(isBakery(b));
        return bakeries.get(b).role;
    }

    public int term(int b) {
        range(isBakery(b));
        return bakeries.get(b).term;
    }

    public int votedFor(int b) {
        range(isBakery(b));
        return bakeries.get(b).vote;
    }

    public boolean reach(int b, int o) {
        range(isBakery(b) && isBakery(o));
        return group.contains(b) && group.contains(o) || !group.contains(b) && !group.contains(o);
    }

    // ---- logs and versions

    public int entries(int b) {
        range(isBakery(b));
        return bakeries.get(b).log.size();
    }

    public int versionAt(int b, int place) {
        range(isBakery(b) && place >= 0 && place < entries(b));
        return bakeries.get(b).log.get(place);
    }

    public int versions() {
        return versionList.size();
    }

    public int termOf(int v) {
        range(isVersion(v));
        return versionList.get(v).term();
    }

    public int holders(int v) {
        range(isVersion(v));
        return bits(holderSet(v));
    }

    private Set<Integer> holderSet(int v) {
        Set<Integer> set = new TreeSet<>();
        for (int b = 0; b < 5; b++) {
            if (bakeries.get(b).log.contains(v)) {
                set.add(b);
            }
        }
        return set;
    }

    public boolean isHeld(int v) {
        range(isVersion(v));
        return holderSet(v).size() > 2;
    }

    public boolean wasHeld(int v) {
        range(isVersion(v));
        return onceHeld.contains(v);
    }

    public int current(int b, int recipe) {
        range(isBakery(b) && isRecipe(recipe));
        List<Integer> backwards = new ArrayList<>(bakeries.get(b).log);
        Collections.reverse(backwards);
        for (int v : backwards) {
            if (versionList.get(v).recipe() == recipe && isHeld(v)) {
                return v;
            }
        }
        return -1;
    }

    // ---- flour and ovens

    public int addLot() {
        state(lotIsGood.size() < 16);
        lotIsGood.add(true);
        return lotIsGood.size() - 1;
    }

    public int deliver(int b, int lot, int bags) {
        range(isBakery(b) && isLot(lot));
        argument(1 <= bags && bags <= 50);
        state(lotIsGood.get(lot));
        state(store(b) + bags <= 200);
        bakeries.get(b).store.addAll(Collections.nCopies(bags, lot));
        return store(b);
    }

    public int condemn(int lot) {
        range(isLot(lot));
        state(lotIsGood.get(lot));
        lotIsGood.set(lot, false);
        for (Bakery bakery : bakeries) {
            bakery.store.removeIf(bag -> bag == lot);
        }
        return callBack(batch -> batch.lots.contains(lot), 2);
    }

    public int store(int b) {
        range(isBakery(b));
        return bakeries.get(b).store.size();
    }

    private static String slot(int b, int h) {
        return new Slot(b, h).toString();
    }

    public int book(int b, int h, int recipe) {
        range(isBakery(b) && isRecipe(recipe));
        argument(isHour(h));
        state(!slots.containsKey(slot(b, h)));
        state(current(b, recipe) != -1);
        slots.put(slot(b, h), current(b, recipe));
        return slots.get(slot(b, h));
    }

    public int renew(int b, int h) {
        range(isBakery(b));
        argument(isHour(h));
        state(slots.containsKey(slot(b, h)));
        int version = current(b, versionList.get(slots.get(slot(b, h))).recipe());
        state(version != -1);
        slots.put(slot(b, h), version);
        return version;
    }

    public int free(int b, int h) {
        range(isBakery(b));
        argument(isHour(h));
        state(slots.containsKey(slot(b, h)));
        return slots.remove(slot(b, h));
    }

    public int booked(int b, int h) {
        range(isBakery(b));
        argument(isHour(h));
        return slots.getOrDefault(slot(b, h), -1);
    }

    public int stopped() {
        int count = 0;
        for (int b = 0; b < 5; b++) {
            for (int h = hour; h <= hour + 50; h++) {
                if (booked(b, h) != -1 && !isHeld(booked(b, h))) {
                    count++;
                }
            }
        }
        return count;
    }

    public int pass(int hours) {
        argument(1 <= hours && hours <= 50);
        state(hour + hours <= 1000);
        int before = batches();
        for (int end = hour + hours; hour < end; hour++) {
            for (int b = 0; b < 5; b++) {
                if (booked(b, hour) != -1 && !bake(bakeries.get(b), booked(b, hour))) {
                    bakeries.get(b).missed++;
                }
            }
        }
        return batches() - before;
    }

    private boolean bake(Bakery bakery, int v) {
        Version version = versionList.get(v);
        if (!isHeld(v) || bakery.store.size() < version.bags() || batches() == 60) {
            return false;
        }
        Batch batch = new Batch();
        batch.version = v;
        batch.loaves = version.loaves();
        batch.lots = new TreeSet<>(bakery.store.subList(0, version.bags()));
        bakery.store.subList(0, version.bags()).clear();
        batchList.add(batch);
        return true;
    }

    public int time() {
        return hour;
    }

    public int missed(int b) {
        range(isBakery(b));
        return bakeries.get(b).missed;
    }

    // ---- batches

    public int batches() {
        return batchList.size();
    }

    public int versionOf(int b) {
        range(isBatch(b));
        return batchList.get(b).version;
    }

    public int lotsOf(int b) {
        range(isBatch(b));
        return bits(batchList.get(b).lots);
    }

    public int left(int b) {
        range(isBatch(b));
        return batchList.get(b).loaves - batchList.get(b).sold;
    }

    private int judged(int b, Model judge) {
        boolean badFlour = batchList.get(b).lots.stream().anyMatch(lot -> !lotIsGood.get(lot));
        return (judge.isHeld(batchList.get(b).version) ? 0 : 1) + (badFlour ? 2 : 0);
    }

    public int barred(int b) {
        range(isBatch(b));
        return judged(b, this);
    }

    public int barredAnew(int b) {
        range(isBatch(b));
        Model judge = new Model();
        done.forEach(call -> call.accept(judge));
        return judged(b, judge);
    }

    public int sell(int b, int count) {
        range(isBatch(b));
        argument(1 <= count && count <= 40);
        state(barred(b) == 0);
        state(left(b) >= count);
        batchList.get(b).sold += count;
        return left(b);
    }

    public int onSale() {
        int sum = 0;
        for (int b = 0; b < batches(); b++) {
            sum += barred(b) == 0 ? left(b) : 0;
        }
        return sum;
    }

    private List<Integer> trace(int lot) {
        List<Integer> found = new ArrayList<>();
        for (int b = 0; b < batches(); b++) {
            if (batchList.get(b).lots.contains(lot)) {
                found.add(b);
            }
        }
        return found;
    }

    public int traced(int lot) {
        range(isLot(lot));
        return trace(lot).size();
    }

    public int tracedAt(int lot, int place) {
        range(isLot(lot));
        range(place >= 0 && place < trace(lot).size());
        return trace(lot).get(place);
    }

    // ---- recalls

    public int recalls() {
        return recallList.size();
    }

    public int recallOf(int r) {
        range(isRecall(r));
        return recallList.get(r).batch();
    }

    public int calledBack(int r) {
        range(isRecall(r));
        return recallList.get(r).loaves();
    }

    public int why(int r) {
        range(isRecall(r));
        return recallList.get(r).why();
    }
}
