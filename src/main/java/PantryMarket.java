import java.util.Arrays;

/** A market of tills that share stock without a centre. The promises in the comments are the document's. */
public final class PantryMarket {
    public static final int NONE = -1;

    private static final int STORE = 0;
    private static final int LEAST_TILLS = 2;
    private static final int MOST_TILLS = 5;
    private static final int ARTICLES = 4;
    private static final int MOST_UNITS = 1000000;
    private static final int MOST_BOOKED = 100000000;
    private static final int MOST_SHARE = 100000000;
    private static final int LONGEST_RESERVATION = 100;
    private static final int MOST_TICKS = 30;

    private static final int VOUCHER = 0;
    private static final int RECEIPT = 1;
    private static final int NEWS = 2;
    private static final int ASK = 3;

    private static final int FIRST_CLOCK = 5;
    private static final int FIRST_UP = 10;

    private final Till[] tills;
    private final Net net;

    /** Promise 1. */
    public PantryMarket(int n) {
        int count = Math.max(LEAST_TILLS, Math.min(MOST_TILLS, n));
        tills = new Till[count];
        for (int till = 0; till < count; till++) {
            tills[till] = new Till(count);
        }
        net = new Net();
    }

    /** Promise 2. */
    public int stock(int article, int units) throws IllegalArgumentException, IllegalStateException {
        checkArticle(article);
        checkUnits(units);
        checkUp(STORE);
        Till store = tills[STORE];
        Book book = store.book;
        if (book.booked[article] + units > MOST_BOOKED) {
            throw new IllegalStateException("too many units would be booked");
        }
        book.share[article] += units;
        book.booked[article] += units;
        store.writeDown();
        return book.share[article];
    }

    /** Promise 3. */
    public int sell(int till, int article, int units) throws IllegalArgumentException, IllegalStateException {
        checkGoods(till, article, units);
        checkSuffices(till, article, units);
        Book book = tills[till].book;
        book.share[article] -= units;
        book.sold[article] += units;
        return book.share[article];
    }

    /** Promise 4. */
    public int unsell(int till, int article, int units) throws IllegalArgumentException, IllegalStateException {
        checkGoods(till, article, units);
        checkUp(till);
        Book book = tills[till].book;
        if (book.share[article] + units > MOST_SHARE) {
            throw new IllegalStateException("the share would be too large");
        }
        book.share[article] += units;
        book.sold[article] -= units;
        return book.share[article];
    }

    /** Promise 5. */
    public int broken(int till, int article, int units) throws IllegalArgumentException, IllegalStateException {
        checkGoods(till, article, units);
        checkSuffices(till, article, units);
        Book book = tills[till].book;
        book.share[article] -= units;
        book.broken[article] += units;
        return book.share[article];
    }

    /** Promise 6. */
    public int reserve(int till, int article, int units, int ticks)
            throws IllegalArgumentException, IllegalStateException {
        checkGoods(till, article, units);
        if (ticks < 1 || ticks > LONGEST_RESERVATION) {
            throw new IllegalArgumentException("no such number of ticks");
        }
        checkSuffices(till, article, units);
        Book book = tills[till].book;
        if (book.reservations.isFull()) {
            throw new IllegalStateException("too many reservations");
        }
        book.share[article] -= units;
        return book.reservations.add(article, units, book.clock + ticks);
    }

    /** Promise 7. */
    public boolean pick(int till, int id) {
        if (!isUp(till)) {
            return false;
        }
        Book book = tills[till].book;
        int at = book.reservations.find(id);
        if (at == NONE) {
            return false;
        }
        book.sold[book.reservations.articles[at]] += book.reservations.units[at];
        book.reservations.remove(at);
        return true;
    }

    /** Promise 8. */
    public int tick(int till, int n) throws IllegalArgumentException, IllegalStateException {
        checkTill(till);
        if (n < 0 || n > MOST_TICKS) {
            throw new IllegalArgumentException("no such number of ticks");
        }
        checkUp(till);
        int gone = 0;
        for (int k = 0; k < n; k++) {
            gone += passTick(till);
        }
        return gone;
    }

    /** Promise 9. */
    public int give(int till, int to, int article, int units)
            throws IllegalArgumentException, IllegalStateException {
        checkGoods(till, article, units);
        checkTill(to);
        if (till == to) {
            throw new IllegalArgumentException("a till can not give to itself");
        }
        if (!canGive(till, to, article, units)) {
            throw new IllegalStateException("the till can not give this now");
        }
        return sendVoucher(till, to, article, units);
    }

    /** Promise 10. */
    public int ask(int till, int article, int units) throws IllegalArgumentException, IllegalStateException {
        checkGoods(till, article, units);
        checkUp(till);
        int richest = richestByNews(till, article);
        if (richest != NONE) {
            net.send(ASK, till, richest, article, units, NONE);
        }
        return richest;
    }

    /** Promise 11. */
    public int counted(int article, int units) throws IllegalArgumentException, IllegalStateException {
        checkArticle(article);
        if (units != 0) {
            checkUnits(units);
        }
        checkUp(STORE);
        Book book = tills[STORE].book;
        int difference = units - book.share[article];
        book.share[article] = units;
        book.booked[article] += difference;
        return difference;
    }

    /** Promise 12. */
    public boolean sync(int till) {
        if (!isUp(till)) {
            return false;
        }
        tills[till].writeDown();
        return true;
    }

    /** Promise 13. */
    public boolean crash(int till) {
        if (!isUp(till)) {
            return false;
        }
        tills[till].up = false;
        tills[till].fallBack();
        return true;
    }

    /** Promise 14. */
    public boolean back(int till) {
        if (!isTill(till) || tills[till].up) {
            return false;
        }
        tills[till].up = true;
        return true;
    }

    /** Promise 15. */
    public int deliver(int slot) throws IndexOutOfBoundsException {
        if (!net.isSlot(slot)) {
            throw new IndexOutOfBoundsException("no such slot");
        }
        int kind = net.cell(slot, 0);
        int from = net.cell(slot, 1);
        int to = net.cell(slot, 2);
        int third = net.cell(slot, 3);
        int fourth = net.cell(slot, 4);
        int fifth = net.cell(slot, 5);
        // It goes first, so that what is sent in answer finds its place even in a net that was full.
        net.takeOut(slot);
        if (!isUp(to)) {
            return 0;
        }
        boolean changed;
        switch (kind) {
            case VOUCHER:
                changed = receiveVoucher(from, to, third, fourth, fifth);
                break;
            case RECEIPT:
                changed = tills[to].book.pairings[from].close(third);
                break;
            case NEWS:
                changed = tills[to].book.pairings[from].hear(third, fourth, fifth);
                break;
            default:
                changed = receiveAsk(from, to, third, fourth);
                break;
        }
        return changed ? 1 : 0;
    }

    /** Promise 16. */
    public boolean drop(int slot) {
        if (!net.isSlot(slot)) {
            return false;
        }
        net.takeOut(slot);
        return true;
    }

    /** Promise 17. */
    public boolean twice(int slot) {
        if (!net.isSlot(slot) || net.isFull()) {
            return false;
        }
        net.repeat(slot);
        return true;
    }

    /** Promise 18. */
    public int slot(int slot, int w) {
        if (!net.isSlot(slot) || w < 0 || w >= Net.WIDTH) {
            return NONE;
        }
        return net.cell(slot, w);
    }

    /** Promise 19. */
    public int has(int till, int article, int w) throws IndexOutOfBoundsException {
        if (!isTill(till) || !isArticle(article)) {
            throw new IndexOutOfBoundsException("no such till or article");
        }
        Book book = tills[till].book;
        switch (w) {
            case 0:
                return book.share[article];
            case 1:
                return book.sold[article];
            case 2:
                return book.broken[article];
            case 3:
                return book.reservations.unitsOf(article);
            default:
                throw new IndexOutOfBoundsException("no such w");
        }
    }

    /** Promise 20. */
    public int news(int till, int other, int article) {
        if (!isTill(till) || !isTill(other) || !isArticle(article)) {
            return NONE;
        }
        return tills[till].book.pairings[other].newsUnits[article];
    }

    /** Promise 21. */
    public int pair(int till, int other, int w) {
        if (!isTill(till) || !isTill(other) || till == other) {
            return NONE;
        }
        Pairing pairing = tills[till].book.pairings[other];
        switch (w) {
            case 0:
                return pairing.nextNumber;
            case 1:
                return pairing.openCount;
            case 2:
                return pairing.floor;
            case 3:
                return pairing.seenCount();
            default:
                return NONE;
        }
    }

    /** Promise 22. */
    public int total(int article, int w) {
        if (!isArticle(article)) {
            return NONE;
        }
        switch (w) {
            case 0:
                return unitsOnTheirWay(article);
            case 1:
                return unitsOnTheirWay(article) + unitsInBooks(article);
            case 2:
                return tills[STORE].book.booked[article];
            default:
                return NONE;
        }
    }

    /** Promise 23. */
    public int look(int which) {
        if (which >= FIRST_CLOCK && which < FIRST_CLOCK + tills.length) {
            return tills[which - FIRST_CLOCK].book.clock;
        }
        if (which >= FIRST_UP && which < FIRST_UP + tills.length) {
            return tills[which - FIRST_UP].up ? 1 : 0;
        }
        switch (which) {
            case 0:
                return tills.length;
            case 1:
                return net.count;
            case 2:
                return net.lost;
            case 3:
                return openVouchers() == 0 && allNewsHold() ? 1 : 0;
            case 4:
                return openVouchers();
            default:
                return NONE;
        }
    }

    private boolean isTill(int till) {
        return till >= 0 && till < tills.length;
    }

    private boolean isUp(int till) {
        return isTill(till) && tills[till].up;
    }

    private static boolean isArticle(int article) {
        return article >= 0 && article < ARTICLES;
    }

    private void checkTill(int till) {
        if (!isTill(till)) {
            throw new IllegalArgumentException("no such till");
        }
    }

    private static void checkArticle(int article) {
        if (!isArticle(article)) {
            throw new IllegalArgumentException("no such article");
        }
    }

    private static void checkUnits(int units) {
        if (units < 1 || units > MOST_UNITS) {
            throw new IllegalArgumentException("no such units");
        }
    }

    private void checkGoods(int till, int article, int units) {
        checkTill(till);
        checkArticle(article);
        checkUnits(units);
    }

    private void checkUp(int till) {
        if (!isUp(till)) {
            throw new IllegalStateException("the till is down");
        }
    }

    private void checkSuffices(int till, int article, int units) {
        checkUp(till);
        if (tills[till].book.share[article] < units) {
            throw new IllegalStateException("the till has not so many units");
        }
    }

    private boolean canGive(int till, int to, int article, int units) {
        Till giver = tills[till];
        return giver.up && giver.book.share[article] >= units && giver.book.pairings[to].canOpen();
    }

    private int sendVoucher(int till, int to, int article, int units) {
        Book book = tills[till].book;
        book.share[article] -= units;
        int number = book.pairings[to].open(article, units);
        // Written down before it is sent: a crash must not take back units that another till may get.
        tills[till].writeDown();
        net.send(VOUCHER, till, to, number, article, units);
        return number;
    }

    private boolean receiveVoucher(int from, int to, int number, int article, int units) {
        Book book = tills[to].book;
        Pairing pairing = book.pairings[from];
        boolean isNew = !pairing.hasSeen(number);
        if (isNew) {
            pairing.markSeen(number);
            book.share[article] += units;
            tills[to].writeDown();
        }
        // An old one has its receipt too: the first receipt may have been lost.
        net.send(RECEIPT, to, from, number, NONE, NONE);
        return isNew;
    }

    private boolean receiveAsk(int from, int to, int article, int units) {
        if (!canGive(to, from, article, units)) {
            return false;
        }
        sendVoucher(to, from, article, units);
        return true;
    }

    private int passTick(int till) {
        Book book = tills[till].book;
        book.clock++;
        int gone = book.releaseEnded();
        sendOpenAgain(till);
        sendNews(till);
        return gone;
    }

    private void sendOpenAgain(int till) {
        for (int to = 0; to < tills.length; to++) {
            Pairing pairing = tills[till].book.pairings[to];
            for (int k = 0; k < pairing.openCount; k++) {
                net.send(VOUCHER, till, to, pairing.openNumbers[k], pairing.openArticles[k], pairing.openUnits[k]);
            }
        }
    }

    private void sendNews(int till) {
        Book book = tills[till].book;
        int count = tills.length;
        // floorMod, so that no index is below 0 even when, far beyond 512 calls, the clock has run over.
        int to = Math.floorMod(book.clock, count);
        if (to == till) {
            return;
        }
        int article = Math.floorMod(book.clock / count, ARTICLES);
        net.send(NEWS, till, to, article, book.share[article], book.nextStamp);
        book.nextStamp++;
    }

    private int richestByNews(int till, int article) {
        int richest = NONE;
        int most = 0;
        for (int other = 0; other < tills.length; other++) {
            int units = tills[till].book.pairings[other].newsUnits[article];
            if (units > most) {
                richest = other;
                most = units;
            }
        }
        return richest;
    }

    private int unitsOnTheirWay(int article) {
        int units = 0;
        for (int from = 0; from < tills.length; from++) {
            for (int to = 0; to < tills.length; to++) {
                Pairing receiver = tills[to].book.pairings[from];
                units += tills[from].book.pairings[to].openUnitsUnseenBy(receiver, article);
            }
        }
        return units;
    }

    private int unitsInBooks(int article) {
        int units = 0;
        for (int till = 0; till < tills.length; till++) {
            units += tills[till].book.unitsOf(article);
        }
        return units;
    }

    private int openVouchers() {
        int open = 0;
        for (int till = 0; till < tills.length; till++) {
            for (int other = 0; other < tills.length; other++) {
                open += tills[till].book.pairings[other].openCount;
            }
        }
        return open;
    }

    private boolean allNewsHold() {
        for (int till = 0; till < tills.length; till++) {
            for (int other = 0; other < tills.length; other++) {
                if (till != other && !newsHold(till, other)) {
                    return false;
                }
            }
        }
        return true;
    }

    private boolean newsHold(int till, int other) {
        for (int article = 0; article < ARTICLES; article++) {
            if (tills[till].book.pairings[other].newsUnits[article] != tills[other].book.share[article]) {
                return false;
            }
        }
        return true;
    }

    /** A till: what it knows now, and what it has written down and will know after a crash. */
    private static final class Till {
        private boolean up;
        private final Book book;
        private final Book kept;

        private Till(int count) {
            up = true;
            book = new Book(count);
            kept = new Book(count);
        }

        private void writeDown() {
            kept.copyFrom(book);
        }

        private void fallBack() {
            book.copyFrom(kept);
        }
    }

    /** The document's RECORD; that of a till other than the store has nothing booked. */
    private static final class Book {
        private final int[] share;
        private final int[] sold;
        private final int[] broken;
        private final int[] booked;
        private int clock;
        private int nextStamp;
        private final Reservations reservations;
        // One for each till, so that a till's number is its index; the one towards the till itself stays as new.
        private final Pairing[] pairings;

        private Book(int count) {
            share = new int[ARTICLES];
            sold = new int[ARTICLES];
            broken = new int[ARTICLES];
            booked = new int[ARTICLES];
            clock = 0;
            nextStamp = 0;
            reservations = new Reservations();
            pairings = new Pairing[count];
            for (int other = 0; other < count; other++) {
                pairings[other] = new Pairing();
            }
        }

        private int unitsOf(int article) {
            return share[article] + sold[article] + broken[article] + reservations.unitsOf(article);
        }

        private int releaseEnded() {
            int before = reservations.count;
            int at = 0;
            for (int k = 0; k < before; k++) {
                if (reservations.ends[at] > clock) {
                    at++;
                } else {
                    share[reservations.articles[at]] += reservations.units[at];
                    reservations.remove(at);
                }
            }
            return before - reservations.count;
        }

        private void copyFrom(Book other) {
            System.arraycopy(other.share, 0, share, 0, ARTICLES);
            System.arraycopy(other.sold, 0, sold, 0, ARTICLES);
            System.arraycopy(other.broken, 0, broken, 0, ARTICLES);
            System.arraycopy(other.booked, 0, booked, 0, ARTICLES);
            clock = other.clock;
            nextStamp = other.nextStamp;
            reservations.copyFrom(other.reservations);
            for (int k = 0; k < pairings.length; k++) {
                pairings[k].copyFrom(other.pairings[k]);
            }
        }
    }

    /** A till's reservations, in the order of their making. */
    private static final class Reservations {
        private static final int LIMIT = 6;

        private int nextId;
        private int count;
        private final int[] ids;
        private final int[] articles;
        private final int[] units;
        private final int[] ends;

        private Reservations() {
            nextId = 0;
            count = 0;
            ids = new int[LIMIT];
            articles = new int[LIMIT];
            units = new int[LIMIT];
            ends = new int[LIMIT];
        }

        private boolean isFull() {
            return count >= LIMIT;
        }

        private int add(int article, int howMany, int end) {
            int id = nextId;
            ids[count] = id;
            articles[count] = article;
            units[count] = howMany;
            ends[count] = end;
            count++;
            nextId++;
            return id;
        }

        private int find(int id) {
            for (int at = 0; at < count; at++) {
                if (ids[at] == id) {
                    return at;
                }
            }
            return NONE;
        }

        private void remove(int at) {
            count--;
            for (int k = at; k < count; k++) {
                ids[k] = ids[k + 1];
                articles[k] = articles[k + 1];
                units[k] = units[k + 1];
                ends[k] = ends[k + 1];
            }
        }

        private int unitsOf(int article) {
            int sum = 0;
            for (int at = 0; at < count; at++) {
                if (articles[at] == article) {
                    sum += units[at];
                }
            }
            return sum;
        }

        private void copyFrom(Reservations other) {
            nextId = other.nextId;
            count = other.count;
            System.arraycopy(other.ids, 0, ids, 0, LIMIT);
            System.arraycopy(other.articles, 0, articles, 0, LIMIT);
            System.arraycopy(other.units, 0, units, 0, LIMIT);
            System.arraycopy(other.ends, 0, ends, 0, LIMIT);
        }
    }

    /** What one till has written of another one: its vouchers to it, those it has seen from it, and news of it. */
    private static final class Pairing {
        private static final int OPEN_LIMIT = 4;
        private static final int WINDOW = 16;
        private static final int NO_STAMP = -1;

        private int nextNumber;
        private int openCount;
        // Numbers only grow, so what is opened last stands last and the least number first.
        private final int[] openNumbers;
        private final int[] openArticles;
        private final int[] openUnits;
        private int floor;
        // Bit k tells of the number floor + k. A giver's numbers stay less than 16 above its least open one,
        // and one that was not seen is open, so no number comes that is beyond the window.
        private int seenFromFloor;
        private final int[] newsUnits;
        private final int[] newsStamps;

        private Pairing() {
            nextNumber = 0;
            openCount = 0;
            openNumbers = new int[OPEN_LIMIT];
            openArticles = new int[OPEN_LIMIT];
            openUnits = new int[OPEN_LIMIT];
            floor = 0;
            seenFromFloor = 0;
            newsUnits = new int[ARTICLES];
            newsStamps = new int[ARTICLES];
            Arrays.fill(newsUnits, NONE);
            Arrays.fill(newsStamps, NO_STAMP);
        }

        private boolean canOpen() {
            return openCount == 0 || openCount < OPEN_LIMIT && nextNumber - openNumbers[0] < WINDOW;
        }

        private int open(int article, int units) {
            int number = nextNumber;
            openNumbers[openCount] = number;
            openArticles[openCount] = article;
            openUnits[openCount] = units;
            openCount++;
            nextNumber++;
            return number;
        }

        private boolean close(int number) {
            for (int at = 0; at < openCount; at++) {
                if (openNumbers[at] == number) {
                    removeOpen(at);
                    return true;
                }
            }
            return false;
        }

        private void removeOpen(int at) {
            openCount--;
            for (int k = at; k < openCount; k++) {
                openNumbers[k] = openNumbers[k + 1];
                openArticles[k] = openArticles[k + 1];
                openUnits[k] = openUnits[k + 1];
            }
        }

        private boolean hasSeen(int number) {
            int above = number - floor;
            return above < 0 || above < WINDOW && (seenFromFloor >>> above & 1) != 0;
        }

        private void markSeen(int number) {
            seenFromFloor |= 1 << (number - floor);
            for (int k = 0; k < WINDOW && (seenFromFloor & 1) != 0; k++) {
                seenFromFloor >>>= 1;
                floor++;
            }
        }

        private int seenCount() {
            return floor + Integer.bitCount(seenFromFloor);
        }

        private int openUnitsUnseenBy(Pairing receiver, int article) {
            int sum = 0;
            for (int at = 0; at < openCount; at++) {
                if (openArticles[at] == article && !receiver.hasSeen(openNumbers[at])) {
                    sum += openUnits[at];
                }
            }
            return sum;
        }

        private boolean hear(int article, int units, int stamp) {
            if (stamp <= newsStamps[article]) {
                return false;
            }
            newsUnits[article] = units;
            newsStamps[article] = stamp;
            return true;
        }

        private void copyFrom(Pairing other) {
            nextNumber = other.nextNumber;
            openCount = other.openCount;
            System.arraycopy(other.openNumbers, 0, openNumbers, 0, OPEN_LIMIT);
            System.arraycopy(other.openArticles, 0, openArticles, 0, OPEN_LIMIT);
            System.arraycopy(other.openUnits, 0, openUnits, 0, OPEN_LIMIT);
            floor = other.floor;
            seenFromFloor = other.seenFromFloor;
            System.arraycopy(other.newsUnits, 0, newsUnits, 0, ARTICLES);
            System.arraycopy(other.newsStamps, 0, newsStamps, 0, ARTICLES);
        }
    }

    /** The messages on their way. Each has six cells, which are what the face's slot answers for w = 0 .. 5. */
    private static final class Net {
        private static final int SLOTS = 24;
        private static final int WIDTH = 6;

        private int count;
        private int lost;
        private final int[] cells;

        private Net() {
            count = 0;
            lost = 0;
            cells = new int[SLOTS * WIDTH];
        }

        private boolean isSlot(int slot) {
            return slot >= 0 && slot < count;
        }

        private boolean isFull() {
            return count >= SLOTS;
        }

        private int cell(int slot, int w) {
            return cells[slot * WIDTH + w];
        }

        private void send(int kind, int from, int to, int third, int fourth, int fifth) {
            if (isFull()) {
                lost++;
                return;
            }
            int at = count * WIDTH;
            cells[at] = kind;
            cells[at + 1] = from;
            cells[at + 2] = to;
            cells[at + 3] = third;
            cells[at + 4] = fourth;
            cells[at + 5] = fifth;
            count++;
        }

        private void takeOut(int slot) {
            count--;
            System.arraycopy(cells, (slot + 1) * WIDTH, cells, slot * WIDTH, (count - slot) * WIDTH);
        }

        private void repeat(int slot) {
            System.arraycopy(cells, slot * WIDTH, cells, count * WIDTH, WIDTH);
            count++;
        }
    }
}
