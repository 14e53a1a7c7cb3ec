import java.util.NoSuchElementException;

/** A running stock count: what the book says at an instant, counts against it, and adjustments. */
public final class RunningCount {
    public static final int NONE = -1;

    private static final int NO_SUM = NONE - 99999999;
    private static final int RECOUNT = -2;
    private static final int SHELVES_MOST = 6;
    private static final int ITEMS_MOST = 5;
    private static final int LAST_INSTANT = 999;
    private static final int MOVES_MOST = 40;
    private static final int MOVE_SUM_MOST = 99;
    private static final int COUNTS_MOST = 40;
    private static final int COUNT_SUM_MOST = 9999;
    private static final int WHO_MOST = 3;
    private static final int DOUBTS_MOST = 10;
    private static final int ACTS_KEPT = 10;
    private static final int LEAVES = 0;
    private static final int COMES = 1;

    private final TextReader reader = new TextReader();
    private Goods goods = new Goods();
    private Goods spare = new Goods();
    private final CountList tally = new CountList();
    private final AdjustmentList ledger = new AdjustmentList();
    private final Journal journal = new Journal();
    private final Book page = new Book();

    public RunningCount() {
    }

    public int feed(int a, int b, int c, int d, int e) {
        Tape tape = reader.tape;
        if (!tape.hasRoom()) {
            return NONE;
        }
        tape.append(a);
        tape.append(b);
        tape.append(c);
        tape.append(d);
        tape.append(e);
        return tape.length;
    }

    public boolean end(int n) {
        if (n < 0 || n > reader.tape.length) {
            return false;
        }
        reader.tape.length = n;
        return true;
    }

    public int text() {
        boolean good = reader.readText(spare);
        reader.tape.length = 0;
        if (!good) {
            return -1 - reader.faultPlace;
        }
        Goods told = spare;
        spare = goods;
        goods = told;
        tally.size = 0;
        ledger.size = 0;
        journal.size = 0;
        return reader.lines;
    }

    public int fault() {
        return reader.faultKind;
    }

    public int now(int what) {
        switch (what) {
            case 0: return goods.shelves;
            case 1: return goods.items;
            case 2: return goods.moves;
            case 3: return tally.size;
            case 4: return tally.openCounts();
            case 5: return ledger.size;
            case 6: return journal.size;
            case 7: return reader.tape.length;
            default: return NONE;
        }
    }

    public int item(int item, int what) {
        if (!goods.hasItem(item)) {
            return NONE;
        }
        switch (what) {
            case 0: return goods.units[item];
            case 1: return goods.shares[item];
            default: return NONE;
        }
    }

    public int move(int move, int what) throws NoSuchElementException {
        if (!goods.hasMove(move)) {
            throw new NoSuchElementException("no such move");
        }
        switch (what) {
            case 0: return goods.moveItem[move];
            case 1: return goods.moveSum[move];
            case 10: return goods.legShelf[legOf(move, LEAVES)];
            case 11: return goods.legEarly[legOf(move, LEAVES)];
            case 12: return goods.legLate[legOf(move, LEAVES)];
            case 20: return goods.legShelf[legOf(move, COMES)];
            case 21: return goods.legEarly[legOf(move, COMES)];
            case 22: return goods.legLate[legOf(move, COMES)];
            default: throw new NoSuchElementException("no such property of a move");
        }
    }

    public int book(int shelf, int item, int t, int what) {
        if (!goods.hasCouple(shelf, item) || !isInstant(t)) {
            return NO_SUM;
        }
        page.readAt(goods, ledger, shelf, item, t);
        switch (what) {
            case 0: return page.sure;
            case 1: return page.least;
            case 2: return page.most;
            case 3: return page.doubtful;
            default: return NO_SUM;
        }
    }

    public int transit(int item, int t, int what) {
        if (!goods.hasItem(item) || !isInstant(t) || what < 0 || what > 1) {
            return NONE;
        }
        int sum = 0;
        for (int move = 0; move < goods.moves; move++) {
            if (goods.moveItem[move] == item && isInTransit(move, t, what == 0)) {
                sum += goods.moveSum[move];
            }
        }
        return sum;
    }

    public int below(int shelf, int item) {
        if (!goods.hasCouple(shelf, item)) {
            return NONE;
        }
        int first = LAST_INSTANT + 1;
        // a stock told is never below 0, and MOST falls only by legs that leave and by adjustments
        for (int move = 0; move < goods.moves; move++) {
            int leg = legOf(move, LEAVES);
            if (goods.moveItem[move] == item && goods.legShelf[leg] == shelf
                    && goods.legLate[leg] < first && isBelow(shelf, item, goods.legLate[leg])) {
                first = goods.legLate[leg];
            }
        }
        for (int k = 0; k < ledger.size; k++) {
            if (ledger.isAt(k, shelf, item)
                    && ledger.instant[k] < first && isBelow(shelf, item, ledger.instant[k])) {
                first = ledger.instant[k];
            }
        }
        return first > LAST_INSTANT ? NONE : first;
    }

    public int count(int count, int what) throws NoSuchElementException {
        if (!tally.has(count)) {
            throw new NoSuchElementException("no such count");
        }
        switch (what) {
            case 0: return tally.shelf[count];
            case 1: return tally.item[count];
            case 2: return tally.instant[count];
            case 3: return tally.sum[count];
            case 4: return tally.who[count];
            case 5: return tally.posted[count] ? 1 : 0;
            case 6: return allowedFor(count);
            default: throw new NoSuchElementException("no such property of a count");
        }
    }

    public int difference(int count) {
        return tally.has(count) ? differenceOf(count) : NO_SUM;
    }

    public int share(int count) {
        if (!tally.has(count)) {
            return NO_SUM;
        }
        int difference = differenceOf(count);
        if (page.sure == 0) {
            return 0;
        }
        return (int) (1000f * (float) difference / (float) page.sure);
    }

    public int chosen(int shelf, int item) {
        return goods.hasCouple(shelf, item) ? chosenOf(shelf, item) : NONE;
    }

    public int due() {
        int couples = 0;
        for (int shelf = 0; shelf < goods.shelves; shelf++) {
            for (int item = 0; item < goods.items; item++) {
                if (chosenOf(shelf, item) == RECOUNT) {
                    couples++;
                }
            }
        }
        return couples;
    }

    public int explained(int count, int k) {
        if (!tally.has(count)) {
            return NONE;
        }
        turnTo(count);
        if (page.doubtful > DOUBTS_MOST) {
            return -2;
        }
        int sets = 0;
        for (int set = 0; set < 1 << page.doubtful; set++) {
            if (page.sureWith(set) == tally.sum[count]) {
                if (sets == k) {
                    return set;
                }
                sets++;
            }
        }
        return k == NONE ? sets : NONE;
    }

    public int adjusted(int k, int what) {
        if (k < 0 || k >= ledger.size) {
            return NO_SUM;
        }
        switch (what) {
            case 0: return ledger.shelf[k];
            case 1: return ledger.item[k];
            case 2: return ledger.instant[k];
            case 3: return ledger.much[k];
            default: return NO_SUM;
        }
    }

    public int moves(int item, int sum) {
        if (!goods.hasItem(item) || sum < 1 || sum > MOVE_SUM_MOST) {
            return NONE;
        }
        if (goods.moves >= MOVES_MOST) {
            return -2;
        }
        int move = goods.addMove(item, sum);
        journal.begin(Act.MOVED, move);
        return move;
    }

    public boolean leg(int move, int leg, int shelf, int early, int late) {
        if (!goods.hasMove(move) || !isLeg(leg) || !goods.hasShelf(shelf) || !isSpan(early, late)) {
            return false;
        }
        if (goods.isThere(legOf(move, leg))) {
            return false;
        }
        goods.setLeg(legOf(move, leg), shelf, early, late);
        journal.begin(Act.LEGGED, legOf(move, leg));
        return true;
    }

    public int narrow(int move, int leg, int early, int late) {
        if (!goods.hasMove(move) || !isLeg(leg) || !goods.isThere(legOf(move, leg))) {
            return NONE;
        }
        int place = legOf(move, leg);
        int earlyThen = goods.legEarly[place];
        int lateThen = goods.legLate[place];
        if (early < earlyThen || late > lateThen || early > late) {
            return NONE;
        }
        Act act = journal.begin(Act.NARROWED, place);
        act.early = earlyThen;
        act.late = lateThen;
        goods.setSpan(place, early, late);
        return lateThen - earlyThen - (late - early);
    }

    public int counts(int shelf, int item, int t, int sum, int who) {
        if (!goods.hasCouple(shelf, item) || !isInstant(t)
                || sum < 0 || sum > COUNT_SUM_MOST || who < 0 || who > WHO_MOST) {
            return NONE;
        }
        if (tally.isCountedAt(shelf, item, t)) {
            return -2;
        }
        int ahead = tally.openAhead(shelf, item, t);
        if (ahead != NONE && tally.who[ahead] == who) {
            return -3;
        }
        if (tally.isPostedBehind(shelf, item, t)) {
            return -4;
        }
        if (tally.size >= COUNTS_MOST) {
            return -5;
        }
        int count = tally.size;
        tally.insert(count, shelf, item, t, sum, who);
        journal.begin(Act.COUNTED, count);
        return count;
    }

    public int post(int shelf, int item) {
        int count = goods.hasCouple(shelf, item) ? chosenOf(shelf, item) : NONE;
        if (count < 0) {
            return NO_SUM;
        }
        int t = tally.instant[count];
        int much = differenceOf(count);
        ledger.append(shelf, item, t, much);
        Act act = journal.begin(Act.POSTED, count);
        act.posted = tally.postUpTo(shelf, item, t);
        return much;
    }

    public boolean drop(int count) {
        if (!tally.has(count) || tally.posted[count]) {
            return false;
        }
        Act act = journal.begin(Act.DROPPED, count);
        act.shelf = tally.shelf[count];
        act.item = tally.item[count];
        act.instant = tally.instant[count];
        act.sum = tally.sum[count];
        act.who = tally.who[count];
        tally.remove(count);
        return true;
    }

    public int undo() {
        if (journal.size <= 0) {
            return NONE;
        }
        takeBack(journal.takeLatest());
        return journal.size;
    }

    private void takeBack(Act act) {
        switch (act.kind) {
            case Act.MOVED:
                goods.removeLastMove();
                break;
            case Act.LEGGED:
                goods.removeLeg(act.number);
                break;
            case Act.NARROWED:
                goods.setSpan(act.number, act.early, act.late);
                break;
            case Act.COUNTED:
                tally.remove(act.number);
                break;
            case Act.POSTED:
                ledger.removeLast();
                tally.reopen(act.posted);
                break;
            case Act.DROPPED:
                tally.insert(act.number, act.shelf, act.item, act.instant, act.sum, act.who);
                break;
            default:
                break;
        }
    }

    private static boolean isInstant(int t) {
        return t >= 0 && t <= LAST_INSTANT;
    }

    private static boolean isSpan(int early, int late) {
        return isInstant(early) && isInstant(late) && early <= late;
    }

    private static boolean isLeg(int leg) {
        return leg == LEAVES || leg == COMES;
    }

    private static int legOf(int move, int leg) {
        return 2 * move + leg;
    }

    private boolean isInTransit(int move, int t, boolean toCome) {
        int leaves = legOf(move, LEAVES);
        int comes = legOf(move, COMES);
        return goods.isThere(leaves) && goods.isThere(comes)
                && goods.isOver(leaves, t) && !goods.isOver(comes, t)
                && goods.isToCome(comes, t) == toCome;
    }

    private boolean isBelow(int shelf, int item, int t) {
        page.readAt(goods, ledger, shelf, item, t);
        return page.most < 0;
    }

    /** Makes the page show the book at the count's shelf, item and instant. */
    private void turnTo(int count) {
        page.readAt(goods, ledger, tally.shelf[count], tally.item[count], tally.instant[count]);
    }

    private int differenceOf(int count) {
        turnTo(count);
        int sum = tally.sum[count];
        if (sum > page.most) {
            return sum - page.most;
        }
        return sum < page.least ? sum - page.least : 0;
    }

    private int allowedFor(int count) {
        turnTo(count);
        int item = tally.item[count];
        int part = goods.shares[item] * Math.max(page.sure, 0) / 100;
        return Math.max(goods.units[item], part);
    }

    /** The chosen count of a couple that there is; RECOUNT or NONE where none is chosen. */
    private int chosenOf(int shelf, int item) {
        int first = tally.openFirst(shelf, item);
        if (first == NONE) {
            return NONE;
        }
        if (Math.abs(differenceOf(first)) <= allowedFor(first)) {
            return first;
        }
        int last = tally.openAhead(shelf, item, LAST_INSTANT + 1);
        if (last == NONE || last == first) {
            return RECOUNT;
        }
        int middle = tally.openAhead(shelf, item, tally.instant[last]);
        if (middle == NONE || middle == first) {
            int apart = Math.abs(differenceOf(first) - differenceOf(last));
            return apart <= allowedFor(last) ? last : RECOUNT;
        }
        int ahead = tally.openAhead(shelf, item, tally.instant[middle]);
        if (ahead == NONE) {
            return RECOUNT;
        }
        int ofAhead = differenceOf(ahead);
        int ofMiddle = differenceOf(middle);
        int wanted = middleOf(ofAhead, ofMiddle, differenceOf(last));
        if (ofAhead == wanted) {
            return ahead;
        }
        return ofMiddle == wanted ? middle : last;
    }

    private static int middleOf(int a, int b, int c) {
        return Math.max(Math.min(a, b), Math.min(Math.max(a, b), c));
    }

    /** What a text tells, and the moves that have come since. */
    private static final class Goods {
        private int shelves = 1;
        private int items = 0;
        private int moves = 0;
        private final int[] units = new int[ITEMS_MOST];
        private final int[] shares = new int[ITEMS_MOST];
        /** By couples; NONE where no stock is told. */
        private final int[] stock = new int[SHELVES_MOST * ITEMS_MOST];
        private final int[] moveItem = new int[MOVES_MOST];
        private final int[] moveSum = new int[MOVES_MOST];
        /** By legs, two of each move; all NONE where a leg is not there. */
        private final int[] legShelf = new int[2 * MOVES_MOST];
        private final int[] legEarly = new int[2 * MOVES_MOST];
        private final int[] legLate = new int[2 * MOVES_MOST];

        private void clear() {
            shelves = 1;
            items = 0;
            moves = 0;
            for (int i = 0; i < stock.length; i++) {
                stock[i] = NONE;
            }
        }

        private boolean hasShelf(int shelf) {
            return shelf >= 0 && shelf < shelves;
        }

        private boolean hasItem(int item) {
            return item >= 0 && item < items;
        }

        private boolean hasCouple(int shelf, int item) {
            return hasShelf(shelf) && hasItem(item);
        }

        private boolean hasMove(int move) {
            return move >= 0 && move < moves;
        }

        private static int placeOf(int shelf, int item) {
            return shelf * ITEMS_MOST + item;
        }

        private boolean isStockTold(int shelf, int item) {
            return hasCouple(shelf, item) && stock[placeOf(shelf, item)] != NONE;
        }

        private void tellStock(int shelf, int item, int sum) {
            if (hasCouple(shelf, item)) {
                stock[placeOf(shelf, item)] = sum;
            }
        }

        private int stockOf(int shelf, int item) {
            return Math.max(stock[placeOf(shelf, item)], 0);
        }

        private void addItem(int units, int share) {
            if (items < ITEMS_MOST) {
                this.units[items] = units;
                shares[items] = share;
                items++;
            }
        }

        private int addMove(int item, int sum) {
            if (moves >= MOVES_MOST) {
                return NONE;
            }
            int move = moves;
            moveItem[move] = item;
            moveSum[move] = sum;
            removeLeg(legOf(move, LEAVES));
            removeLeg(legOf(move, COMES));
            moves++;
            return move;
        }

        private void removeLastMove() {
            if (moves > 0) {
                moves--;
            }
        }

        private void setLeg(int leg, int shelf, int early, int late) {
            if (leg >= 0 && leg < 2 * MOVES_MOST) {
                legShelf[leg] = shelf;
                legEarly[leg] = early;
                legLate[leg] = late;
            }
        }

        private void removeLeg(int leg) {
            setLeg(leg, NONE, NONE, NONE);
        }

        private void setSpan(int leg, int early, int late) {
            if (leg >= 0 && leg < 2 * MOVES_MOST) {
                legEarly[leg] = early;
                legLate[leg] = late;
            }
        }

        private boolean isThere(int leg) {
            return legShelf[leg] != NONE;
        }

        private boolean isOver(int leg, int t) {
            return legLate[leg] <= t;
        }

        private boolean isToCome(int leg, int t) {
            return legEarly[leg] > t;
        }
    }

    /** The book of one shelf and item at one instant. */
    private static final class Book {
        private int sure;
        private int least;
        private int most;
        private int doubtful;
        /** What the first doubtful legs would change, by moves and legs. */
        private final int[] doubts = new int[DOUBTS_MOST];

        private void readAt(Goods goods, AdjustmentList ledger, int shelf, int item, int t) {
            sure = goods.stockOf(shelf, item) + ledger.sumUpTo(shelf, item, t);
            least = 0;
            most = 0;
            doubtful = 0;
            for (int move = 0; move < goods.moves; move++) {
                if (goods.moveItem[move] == item) {
                    int sum = goods.moveSum[move];
                    readLeg(goods, legOf(move, LEAVES), shelf, t, -sum);
                    readLeg(goods, legOf(move, COMES), shelf, t, sum);
                }
            }
            least += sure;
            most += sure;
        }

        private void readLeg(Goods goods, int leg, int shelf, int t, int change) {
            if (goods.legShelf[leg] != shelf) {
                return;
            }
            if (goods.isOver(leg, t)) {
                sure += change;
            } else if (!goods.isToCome(leg, t)) {
                addDoubt(change);
            }
        }

        private void addDoubt(int change) {
            if (doubtful < DOUBTS_MOST) {
                doubts[doubtful] = change;
            }
            doubtful++;
            if (change < 0) {
                least += change;
            } else {
                most += change;
            }
        }

        /** What SURE would be if the doubtful legs of the set (as bits) were over. */
        private int sureWith(int set) {
            int sum = sure;
            for (int i = 0; i < DOUBTS_MOST; i++) {
                if ((set >> i & 1) == 1) {
                    sum += doubts[i];
                }
            }
            return sum;
        }
    }

    /** The counts by their numbers. */
    private static final class CountList {
        private int size = 0;
        private final int[] shelf = new int[COUNTS_MOST];
        private final int[] item = new int[COUNTS_MOST];
        private final int[] instant = new int[COUNTS_MOST];
        private final int[] sum = new int[COUNTS_MOST];
        private final int[] who = new int[COUNTS_MOST];
        private final boolean[] posted = new boolean[COUNTS_MOST];

        private boolean has(int count) {
            return count >= 0 && count < size;
        }

        private boolean isAt(int count, int ofShelf, int ofItem) {
            return shelf[count] == ofShelf && item[count] == ofItem;
        }

        private boolean isOpenAt(int count, int ofShelf, int ofItem) {
            return !posted[count] && isAt(count, ofShelf, ofItem);
        }

        private int openCounts() {
            int open = 0;
            for (int i = 0; i < size; i++) {
                if (!posted[i]) {
                    open++;
                }
            }
            return open;
        }

        private boolean isCountedAt(int ofShelf, int ofItem, int t) {
            for (int i = 0; i < size; i++) {
                if (isAt(i, ofShelf, ofItem) && instant[i] == t) {
                    return true;
                }
            }
            return false;
        }

        private boolean isPostedBehind(int ofShelf, int ofItem, int t) {
            for (int i = 0; i < size; i++) {
                if (isAt(i, ofShelf, ofItem) && posted[i] && instant[i] > t) {
                    return true;
                }
            }
            return false;
        }

        /** The open count of the earliest instant, or NONE. */
        private int openFirst(int ofShelf, int ofItem) {
            int found = NONE;
            for (int i = 0; i < size; i++) {
                if (isOpenAt(i, ofShelf, ofItem) && (found == NONE || instant[i] < instant[found])) {
                    found = i;
                }
            }
            return found;
        }

        /** The open count of the latest instant ahead of t, or NONE. */
        private int openAhead(int ofShelf, int ofItem, int t) {
            int found = NONE;
            for (int i = 0; i < size; i++) {
                if (isOpenAt(i, ofShelf, ofItem) && instant[i] < t
                        && (found == NONE || instant[i] > instant[found])) {
                    found = i;
                }
            }
            return found;
        }

        /** Posts the open counts at t or ahead of it; answers which, as bits. */
        private long postUpTo(int ofShelf, int ofItem, int t) {
            long which = 0;
            for (int i = 0; i < size; i++) {
                if (isOpenAt(i, ofShelf, ofItem) && instant[i] <= t) {
                    posted[i] = true;
                    which |= 1L << i;
                }
            }
            return which;
        }

        private void reopen(long which) {
            for (int i = 0; i < size; i++) {
                if ((which >> i & 1L) == 1L) {
                    posted[i] = false;
                }
            }
        }

        private void insert(int at, int ofShelf, int ofItem, int t, int ofSum, int ofWho) {
            if (size >= COUNTS_MOST || at < 0 || at > size) {
                return;
            }
            for (int i = size; i > at; i--) {
                copy(i - 1, i);
            }
            shelf[at] = ofShelf;
            item[at] = ofItem;
            instant[at] = t;
            sum[at] = ofSum;
            who[at] = ofWho;
            posted[at] = false;
            size++;
        }

        private void remove(int at) {
            if (!has(at)) {
                return;
            }
            for (int i = at; i < size - 1; i++) {
                copy(i + 1, i);
            }
            size--;
        }

        private void copy(int from, int to) {
            shelf[to] = shelf[from];
            item[to] = item[from];
            instant[to] = instant[from];
            sum[to] = sum[from];
            who[to] = who[from];
            posted[to] = posted[from];
        }
    }

    /** The adjustments as they came: each posts a count of its own, so there are no more than counts. */
    private static final class AdjustmentList {
        private int size = 0;
        private final int[] shelf = new int[COUNTS_MOST];
        private final int[] item = new int[COUNTS_MOST];
        private final int[] instant = new int[COUNTS_MOST];
        private final int[] much = new int[COUNTS_MOST];

        private void append(int ofShelf, int ofItem, int t, int howMuch) {
            if (size < COUNTS_MOST) {
                shelf[size] = ofShelf;
                item[size] = ofItem;
                instant[size] = t;
                much[size] = howMuch;
                size++;
            }
        }

        private void removeLast() {
            if (size > 0) {
                size--;
            }
        }

        private boolean isAt(int k, int ofShelf, int ofItem) {
            return shelf[k] == ofShelf && item[k] == ofItem;
        }

        private int sumUpTo(int ofShelf, int ofItem, int t) {
            int sum = 0;
            for (int k = 0; k < size; k++) {
                if (isAt(k, ofShelf, ofItem) && instant[k] <= t) {
                    sum += much[k];
                }
            }
            return sum;
        }
    }

    /** What is needed to take back one act; which fields count depends on its kind. */
    private static final class Act {
        private static final int MOVED = 0;
        private static final int LEGGED = 1;
        private static final int NARROWED = 2;
        private static final int COUNTED = 3;
        private static final int POSTED = 4;
        private static final int DROPPED = 5;

        private int kind;
        /** Of the move, the leg or the count. */
        private int number;
        /** The span that a leg had. */
        private int early;
        private int late;
        /** The count that was dropped. */
        private int shelf;
        private int item;
        private int instant;
        private int sum;
        private int who;
        /** Which counts were posted, as bits. */
        private long posted;
    }

    /** The latest acts, in a ring: a new one takes the place of the oldest. */
    private static final class Journal {
        private int size = 0;
        private int next = 0;
        private final Act[] acts = new Act[ACTS_KEPT];

        private Journal() {
            for (int i = 0; i < ACTS_KEPT; i++) {
                acts[i] = new Act();
            }
        }

        private Act begin(int kind, int number) {
            Act act = acts[next];
            act.kind = kind;
            act.number = number;
            next = next < ACTS_KEPT - 1 ? next + 1 : 0;
            size = Math.min(size + 1, ACTS_KEPT);
            return act;
        }

        private Act takeLatest() {
            next = next > 0 ? next - 1 : ACTS_KEPT - 1;
            size = Math.max(size - 1, 0);
            return acts[next];
        }
    }

    /** The tape of bytes, and the tokens found on it. */
    private static final class Tape {
        private static final int BYTES_MOST = 640;
        private static final int FEED_BYTES = 20;
        private static final int TEXT_BYTES = 600;
        private static final int DIGITS_MOST = 3;

        // the kinds of tokens; that of a number is the number itself
        private static final int NO_TOKEN = -1;
        private static final int END = -2;
        private static final int SIGN = -3;
        private static final int OTHER_WORD = -4;
        private static final int SHELVES = -5;
        private static final int ITEM = -6;
        private static final int STOCK = -7;
        private static final int MOVE = -8;
        private static final int FROM = -9;
        private static final int TO = -10;

        private int length = 0;
        private final byte[] bytes = new byte[BYTES_MOST];
        private int tokens = 0;
        private final int[] kinds = new int[TEXT_BYTES + 1];
        private final int[] starts = new int[TEXT_BYTES + 1];

        private boolean hasRoom() {
            return length <= BYTES_MOST - FEED_BYTES;
        }

        private void append(int number) {
            for (int shift = 24; shift >= 0; shift -= 8) {
                if (length < BYTES_MOST) {
                    bytes[length] = (byte) (number >> shift);
                    length++;
                }
            }
        }

        /** Finds the tokens, whole, that begin ahead of TEXT_BYTES, and puts an END behind them. */
        private void scan() {
            int bound = Math.min(length, TEXT_BYTES);
            int place = 0;
            tokens = 0;
            for (int i = 0; i < TEXT_BYTES && place < bound; i++) {
                if (isBlank(bytes[place])) {
                    place++;
                } else {
                    int behind = behindRun(place);
                    addToken(kindOf(place, behind), place);
                    place = behind;
                }
            }
            addToken(END, bound);
        }

        private void addToken(int kind, int start) {
            if (tokens < kinds.length) {
                kinds[tokens] = kind;
                starts[tokens] = start;
                tokens++;
            }
        }

        /** The place behind the letters and digits at start, or behind the one other sign there. */
        private int behindRun(int start) {
            int place = start;
            while (place < length && (isLetter(bytes[place]) || isDigit(bytes[place]))) {
                place++;
            }
            return Math.max(place, start + 1);
        }

        private int kindOf(int start, int behind) {
            int letters = 0;
            int digits = 0;
            int number = 0;
            for (int i = start; i < behind; i++) {
                if (isLetter(bytes[i])) {
                    letters++;
                } else if (isDigit(bytes[i])) {
                    digits++;
                    number = 10 * number + bytes[i] - '0';
                }
            }
            if (letters == behind - start) {
                return kindOfWord(start, letters);
            }
            if (digits == behind - start && digits <= DIGITS_MOST) {
                return number;
            }
            return bytes[start] == ';' ? SIGN : NO_TOKEN;
        }

        private int kindOfWord(int start, int size) {
            if (isWord(start, size, "shelves")) {
                return SHELVES;
            }
            if (isWord(start, size, "item")) {
                return ITEM;
            }
            if (isWord(start, size, "stock")) {
                return STOCK;
            }
            if (isWord(start, size, "move")) {
                return MOVE;
            }
            if (isWord(start, size, "from")) {
                return FROM;
            }
            return isWord(start, size, "to") ? TO : OTHER_WORD;
        }

        private boolean isWord(int start, int size, String word) {
            if (size != word.length()) {
                return false;
            }
            for (int i = 0; i < size; i++) {
                if (bytes[start + i] != word.charAt(i)) {
                    return false;
                }
            }
            return true;
        }

        private static boolean isBlank(int sign) {
            return sign == 32 || sign == 10;
        }

        private static boolean isLetter(int sign) {
            return sign >= 'a' && sign <= 'z';
        }

        private static boolean isDigit(int sign) {
            return sign >= '0' && sign <= '9';
        }
    }

    /** Reads a tape as a text, token by token; a method that reads answers false at a fault. */
    private static final class TextReader {
        private static final int TOLERANCE_MOST = 99;
        private static final int STOCK_MOST = 999;
        private static final int TOLD_MOVES_MOST = 16;

        private static final int WRONG_TOKEN = 1;
        private static final int WRONG_NUMBER = 2;
        private static final int TOO_MANY = 3;

        private final Tape tape = new Tape();
        private int next = 0;
        /** Kind and place of the token that comes next. */
        private int token = Tape.END;
        private int start = 0;
        /** The number taken latest. */
        private int value = 0;
        private int lines = 0;
        private int faultKind = 0;
        private int faultPlace = 0;

        private boolean readText(Goods told) {
            tape.scan();
            told.clear();
            next = 0;
            lines = 0;
            faultKind = 0;
            advance();
            return readShelves(told) && readItems(told) && readStocks(told) && readMoves(told) && readEnd();
        }

        private boolean readShelves(Goods told) {
            if (!take(Tape.SHELVES) || !takeNumber(1, SHELVES_MOST)) {
                return false;
            }
            told.shelves = value;
            return takeLineEnd();
        }

        private boolean readItems(Goods told) {
            for (int i = 0; i <= ITEMS_MOST && token == Tape.ITEM; i++) {
                if (told.items >= ITEMS_MOST) {
                    return fail(TOO_MANY);
                }
                if (!readItem(told)) {
                    return false;
                }
            }
            return true;
        }

        private boolean readItem(Goods told) {
            if (!take(Tape.ITEM) || !takeNumber(0, TOLERANCE_MOST)) {
                return false;
            }
            int units = value;
            if (!takeNumber(0, TOLERANCE_MOST)) {
                return false;
            }
            told.addItem(units, value);
            return takeLineEnd();
        }

        private boolean readStocks(Goods told) {
            for (int i = 0; i <= SHELVES_MOST * ITEMS_MOST && token == Tape.STOCK; i++) {
                if (!readStock(told)) {
                    return false;
                }
            }
            return true;
        }

        private boolean readStock(Goods told) {
            if (!take(Tape.STOCK) || !takeNumber(0, told.shelves - 1)) {
                return false;
            }
            int shelf = value;
            if (told.isStockTold(shelf, token)) {
                return fail(WRONG_NUMBER);
            }
            if (!takeNumber(0, told.items - 1)) {
                return false;
            }
            int item = value;
            if (!takeNumber(0, STOCK_MOST)) {
                return false;
            }
            told.tellStock(shelf, item, value);
            return takeLineEnd();
        }

        private boolean readMoves(Goods told) {
            for (int i = 0; i <= TOLD_MOVES_MOST && token == Tape.MOVE; i++) {
                if (told.moves >= TOLD_MOVES_MOST) {
                    return fail(TOO_MANY);
                }
                if (!readMove(told)) {
                    return false;
                }
            }
            return true;
        }

        private boolean readMove(Goods told) {
            if (!take(Tape.MOVE) || !takeNumber(0, told.items - 1)) {
                return false;
            }
            int item = value;
            if (!takeNumber(1, MOVE_SUM_MOST)) {
                return false;
            }
            int move = told.addMove(item, value);
            if (token == Tape.FROM && !readLeg(told, Tape.FROM, legOf(move, LEAVES))) {
                return false;
            }
            if (token == Tape.TO && !readLeg(told, Tape.TO, legOf(move, COMES))) {
                return false;
            }
            return takeLineEnd();
        }

        private boolean readLeg(Goods told, int word, int leg) {
            if (!take(word) || !takeNumber(0, told.shelves - 1)) {
                return false;
            }
            int shelf = value;
            if (!takeNumber(0, LAST_INSTANT)) {
                return false;
            }
            int early = value;
            if (!takeNumber(early, LAST_INSTANT)) {
                return false;
            }
            told.setLeg(leg, shelf, early, value);
            return true;
        }

        /** Of a tape that is too long the END stands where a text may have no more bytes. */
        private boolean readEnd() {
            return (token == Tape.END && tape.length <= Tape.TEXT_BYTES) || fail(WRONG_TOKEN);
        }

        private boolean takeLineEnd() {
            lines++;
            return take(Tape.SIGN);
        }

        private boolean take(int kind) {
            if (token != kind) {
                return fail(WRONG_TOKEN);
            }
            advance();
            return true;
        }

        private boolean takeNumber(int low, int high) {
            if (token < 0) {
                return fail(WRONG_TOKEN);
            }
            if (token < low || token > high) {
                return fail(WRONG_NUMBER);
            }
            value = token;
            advance();
            return true;
        }

        private void advance() {
            if (next < tape.tokens && next < tape.kinds.length) {
                token = tape.kinds[next];
                start = tape.starts[next];
                next++;
            }
        }

        private boolean fail(int kind) {
            faultKind = kind;
            faultPlace = start;
            return false;
        }
    }
}
