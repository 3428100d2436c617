import java.util.ArrayList;
import java.util.Arrays;
import java.util.Iterator;
import java.util.List;
import java.util.Map;
import java.util.TreeMap;
import java.util.TreeSet;

/**
 * The document once more, as plainly as it can be written with the whole Java library: what PantryMarket answers is
 * compared with this. Its methods bear the face's names, for RandomRunsTest calls both by name.
 */
public final class Model {
    private static final int NONE = -1;

    /** The RECORD; a copy of it is what is kept. */
    private static final class Record {
        final long[] share = new long[4];
        final long[] sold = new long[4];
        final long[] broken = new long[4];
        final long[] booked = new long[4];
        int clock = 0;
        int nextId = 0;
        int nextStamp = 0;
        /** By ID: article, units, end. */
        final TreeMap<Integer, int[]> reservations = new TreeMap<>();
        final int[] number = new int[5];
        /** By till, by number: article, units. */
        final List<TreeMap<Integer, int[]>> open = new ArrayList<>();
        /** By till: every number ever seen. */
        final List<TreeSet<Integer>> seen = new ArrayList<>();
        /** By till, by article: units, stamp. */
        final int[][][] news = new int[5][4][];

        Record() {
            for (int till = 0; till < 5; till++) {
                open.add(new TreeMap<>());
                seen.add(new TreeSet<>());
                for (int article = 0; article < 4; article++) {
                    news[till][article] = new int[] {NONE, -1};
                }
            }
        }

        Record copy() {
            Record c = new Record();
            for (int article = 0; article < 4; article++) {
                c.share[article] = share[article];
                c.sold[article] = sold[article];
                c.broken[article] = broken[article];
                c.booked[article] = booked[article];
            }
            c.clock = clock;
            c.nextId = nextId;
            c.nextStamp = nextStamp;
            c.reservations.putAll(reservations);
            for (int till = 0; till < 5; till++) {
                c.number[till] = number[till];
                c.open.get(till).putAll(open.get(till));
                c.seen.get(till).addAll(seen.get(till));
                c.news[till] = news[till].clone();
            }
            return c;
        }
    }

    private final int n;
    private final Record[] record;
    private final Record[] kept;
    private final boolean[] up;
    private final List<int[]> net = new ArrayList<>();
    private int lost = 0;

    public Model(int n) {
        this.n = n < 2 ? 2 : n > 5 ? 5 : n;
        record = new Record[this.n];
        kept = new Record[this.n];
        up = new boolean[this.n];
        for (int till = 0; till < this.n; till++) {
            record[till] = new Record();
            kept[till] = new Record();
            up[till] = true;
        }
    }

    private boolean noTill(int till) {
        return till < 0 || till >= n;
    }

    private boolean noArticle(int article) {
        return article < 0 || article > 3;
    }

    private boolean noUnits(int units) {
        return units < 1 || units > 1000000;
    }

    private static void argument(boolean wrong) {
        if (wrong) {
            throw new IllegalArgumentException();
        }
    }

    private static void state(boolean wrong) {
        if (wrong) {
            throw new IllegalStateException();
        }
    }

    private void syncs(int till) {
        kept[till] = record[till].copy();
    }

    private void send(int... message) {
        if (net.size() == 24) {
            lost++;
        } else {
            net.add(message);
        }
    }

    public int stock(int article, int units) {
        argument(noArticle(article) || noUnits(units));
        Record r = record[0];
        state(!up[0] || r.booked[article] + units > 100000000);
        r.share[article] += units;
        r.booked[article] += units;
        syncs(0);
        return (int) r.share[article];
    }

    public int sell(int till, int article, int units) {
        argument(noTill(till) || noArticle(article) || noUnits(units));
        state(!up[till] || record[till].share[article] < units);
        record[till].sold[article] += units;
        return (int) (record[till].share[article] -= units);
    }

    public int unsell(int till, int article, int units) {
        argument(noTill(till) || noArticle(article) || noUnits(units));
        state(!up[till] || record[till].share[article] + units > 100000000);
        record[till].sold[article] -= units;
        return (int) (record[till].share[article] += units);
    }

    public int broken(int till, int article, int units) {
        argument(noTill(till) || noArticle(article) || noUnits(units));
        state(!up[till] || record[till].share[article] < units);
        record[till].broken[article] += units;
        return (int) (record[till].share[article] -= units);
    }

    public int reserve(int till, int article, int units, int ticks) {
        argument(noTill(till) || noArticle(article) || noUnits(units) || ticks < 1 || ticks > 100);
        Record r = record[till];
        state(!up[till] || r.share[article] < units || r.reservations.size() == 6);
        r.share[article] -= units;
        r.reservations.put(r.nextId, new int[] {article, units, r.clock + ticks});
        return r.nextId++;
    }

    public boolean pick(int till, int id) {
        if (noTill(till) || !up[till]) {
            return false;
        }
        int[] gone = record[till].reservations.remove(id);
        if (gone == null) {
            return false;
        }
        record[till].sold[gone[0]] += gone[1];
        return true;
    }

    public int tick(int till, int ticks) {
        argument(noTill(till) || ticks < 0 || ticks > 30);
        state(!up[till]);
        int went = 0;
        for (int k = 0; k < ticks; k++) {
            went += oneTick(till, record[till]);
        }
        return went;
    }

    private int oneTick(int till, Record r) {
        int went = 0;
        r.clock++;
        for (Iterator<int[]> all = r.reservations.values().iterator(); all.hasNext();) {
            int[] reservation = all.next();
            if (reservation[2] <= r.clock) {
                r.share[reservation[0]] += reservation[1];
                all.remove();
                went++;
            }
        }
        for (int to = 0; to < n; to++) {
            for (Map.Entry<Integer, int[]> voucher : r.open.get(to).entrySet()) {
                send(0, till, to, voucher.getKey(), voucher.getValue()[0], voucher.getValue()[1]);
            }
        }
        int t = r.clock % n;
        int a = r.clock / n % 4;
        if (t != till) {
            send(2, till, t, a, (int) r.share[a], r.nextStamp++);
        }
        return went;
    }

    private boolean canGive(int till, int to, int article, int units) {
        Record r = record[till];
        TreeMap<Integer, int[]> open = r.open.get(to);
        return up[till] && r.share[article] >= units && open.size() < 4
            && (open.isEmpty() || r.number[to] - open.firstKey() < 16);
    }

    private int gives(int till, int to, int article, int units) {
        Record r = record[till];
        int number = r.number[to]++;
        r.share[article] -= units;
        r.open.get(to).put(number, new int[] {article, units});
        syncs(till);
        send(0, till, to, number, article, units);
        return number;
    }

    public int give(int till, int to, int article, int units) {
        argument(noTill(till) || noTill(to) || till == to || noArticle(article) || noUnits(units));
        state(!canGive(till, to, article, units));
        return gives(till, to, article, units);
    }

    public int ask(int till, int article, int units) {
        argument(noTill(till) || noArticle(article) || noUnits(units));
        state(!up[till]);
        int best = NONE;
        for (int other = n - 1; other >= 0; other--) {
            int units1 = record[till].news[other][article][0];
            if (other != till && units1 > 0 && (best == NONE || units1 >= record[till].news[best][article][0])) {
                best = other;
            }
        }
        if (best != NONE) {
            send(3, till, best, article, units, NONE);
        }
        return best;
    }

    public int counted(int article, int units) {
        argument(noArticle(article) || units < 0 || units > 1000000);
        state(!up[0]);
        long difference = units - record[0].share[article];
        record[0].share[article] = units;
        record[0].booked[article] += difference;
        return (int) difference;
    }

    public boolean sync(int till) {
        if (noTill(till) || !up[till]) {
            return false;
        }
        syncs(till);
        return true;
    }

    public boolean crash(int till) {
        if (noTill(till) || !up[till]) {
            return false;
        }
        up[till] = false;
        record[till] = kept[till].copy();
        return true;
    }

    public boolean back(int till) {
        if (noTill(till) || up[till]) {
            return false;
        }
        up[till] = true;
        return true;
    }

    public int deliver(int slot) {
        if (slot < 0 || slot >= net.size()) {
            throw new IndexOutOfBoundsException();
        }
        int[] message = net.remove(slot);
        int from = message[1];
        int to = message[2];
        Record r = record[to];
        if (!up[to]) {
            return 0;
        }
        if (message[0] == 0) {
            boolean isNew = r.seen.get(from).add(message[3]);
            if (isNew) {
                r.share[message[4]] += message[5];
                syncs(to);
            }
            send(1, to, from, message[3], NONE, NONE);
            return isNew ? 1 : 0;
        }
        if (message[0] == 1) {
            return r.open.get(from).remove(message[3]) == null ? 0 : 1;
        }
        if (message[0] == 2) {
            if (message[5] <= r.news[from][message[3]][1]) {
                return 0;
            }
            r.news[from][message[3]] = new int[] {message[4], message[5]};
            return 1;
        }
        if (!canGive(to, from, message[3], message[4])) {
            return 0;
        }
        gives(to, from, message[3], message[4]);
        return 1;
    }

    public boolean drop(int slot) {
        if (slot < 0 || slot >= net.size()) {
            return false;
        }
        net.remove(slot);
        return true;
    }

    public boolean twice(int slot) {
        if (slot < 0 || slot >= net.size() || net.size() == 24) {
            return false;
        }
        net.add(net.get(slot));
        return true;
    }

    public int slot(int slot, int w) {
        return slot < 0 || slot >= net.size() || w < 0 || w > 5 ? NONE : net.get(slot)[w];
    }

    public int has(int till, int article, int w) {
        if (noTill(till) || noArticle(article) || w < 0 || w > 3) {
            throw new IndexOutOfBoundsException();
        }
        Record r = record[till];
        return (int) new long[] {r.share[article], r.sold[article], r.broken[article], reserved(r, article)}[w];
    }

    private static long reserved(Record r, int article) {
        return r.reservations.values().stream().filter(x -> x[0] == article).mapToLong(x -> x[1]).sum();
    }

    public int news(int till, int other, int article) {
        return noTill(till) || noTill(other) || noArticle(article) ? NONE : record[till].news[other][article][0];
    }

    private static int floor(TreeSet<Integer> seen) {
        int floor = 0;
        while (seen.contains(floor)) {
            floor++;
        }
        return floor;
    }

    public int pair(int till, int other, int w) {
        if (noTill(till) || noTill(other) || till == other || w < 0 || w > 3) {
            return NONE;
        }
        Record r = record[till];
        return new int[] {r.number[other], r.open.get(other).size(), floor(r.seen.get(other)),
            r.seen.get(other).size()}[w];
    }

    public int total(int article, int w) {
        if (noArticle(article) || w < 0 || w > 2) {
            return NONE;
        }
        long way = 0;
        long all = 0;
        for (int till = 0; till < n; till++) {
            Record r = record[till];
            all += r.share[article] + r.sold[article] + r.broken[article] + reserved(r, article);
            for (int to = 0; to < n; to++) {
                for (Map.Entry<Integer, int[]> voucher : r.open.get(to).entrySet()) {
                    if (voucher.getValue()[0] == article && !record[to].seen.get(till).contains(voucher.getKey())) {
                        way += voucher.getValue()[1];
                    }
                }
            }
        }
        return (int) new long[] {way, all + way, record[0].booked[article]}[w];
    }

    public int look(int which) {
        int open = Arrays.stream(record).mapToInt(r -> r.open.stream().mapToInt(Map::size).sum()).sum();
        if (which == 0) {
            return n;
        } else if (which == 1) {
            return net.size();
        } else if (which == 2) {
            return lost;
        } else if (which == 3) {
            return open == 0 && newsAreRight() ? 1 : 0;
        } else if (which == 4) {
            return open;
        } else if (which >= 5 && which <= 9 && !noTill(which - 5)) {
            return record[which - 5].clock;
        } else if (which >= 10 && which <= 14 && !noTill(which - 10)) {
            return up[which - 10] ? 1 : 0;
        }
        return NONE;
    }

    private boolean newsAreRight() {
        boolean right = true;
        for (int till = 0; till < n; till++) {
            for (int other = 0; other < n; other++) {
                for (int article = 0; article < 4; article++) {
                    right &= till == other || record[till].news[other][article][0] == record[other].share[article];
                }
            }
        }
        return right;
    }
}
