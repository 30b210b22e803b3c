import java.util.Arrays;

/**
 * Bills on a wall, pasted one over another by several owners: what of each can be seen, what hides it,
 * what it is worth, how a photograph of it can have come about, and where the next one hangs best.
 */
public final class BillWall {
    public static final int NONE = -1, UNKNOWN = -100000001, OUTSIDE = -100000002, NOT = -100000003, FULL = -100000004;

    private static final int MOST_BYTES = 300;
    private static final int MOST_COLUMNS = 16;
    private static final int MOST_ROWS = 8;
    private static final int MOST_CELLS = 128;
    private static final int MOST_STRIPS = 8;
    private static final int MOST_KINDS = 12;
    private static final int MOST_BILLS = 20;
    private static final int MOST_SHOWN = 10;
    private static final int MOST_TO_FREE = 12;
    private static final int OWNERS = 6;

    private final Plan plan = new Plan();
    private final Plan draft = new Plan();
    private final Reader reader = new Reader();
    private final Bills bills = new Bills(plan);
    private final Image firstImage = new Image(plan);
    private final Image secondImage = new Image(plan);
    private final Sight sight = new Sight(plan);
    private final Lifting lifting = new Lifting(plan);
    private final Places places = new Places(plan);
    private final Photograph photograph = new Photograph(plan);

    public BillWall() {
    }

    // ---- the wall

    public int feed(int n, long bytes) {
        if (n < 1 || n > 8) {
            return OUTSIDE;
        }
        return reader.append(n, bytes) ? reader.length : FULL;
    }

    public int wall() {
        boolean faultless = reader.readInto(draft);
        reader.length = 0;
        if (!faultless) {
            return -10 - reader.faultNumber;
        }
        plan.copyFrom(draft);
        bills.takeAllAway();
        photograph.forget();
        firstImage.kept = false;
        secondImage.kept = false;
        return plan.kinds;
    }

    public int fault() {
        return reader.faultPlace;
    }

    public int told(int what) {
        switch (what) {
            case 0:
                return plan.columns;
            case 1:
                return plan.rows;
            case 2:
                return plan.guard;
            case 3:
                return plan.fine;
            case 4:
                return plan.percent;
            case 5:
                return plan.strips;
            case 6:
                return plan.kinds;
            case 7:
                return bills.count;
            case 8:
                return bills.today;
            case 9:
                return reader.length;
            case 10:
                return photograph.count;
            default:
                return OUTSIDE;
        }
    }

    public int kind(int k, int what) {
        if (!plan.hasKind(k)) {
            return UNKNOWN;
        }
        switch (what) {
            case 0:
                return plan.owners[k];
            case 1:
                return plan.widths[k];
            case 2:
                return plan.heights[k];
            default:
                return OUTSIDE;
        }
    }

    public int passes(int x) {
        return plan.hasCell(x, 0) ? plan.passers[x] : OUTSIDE;
    }

    public int bare(int x, int y) {
        if (!plan.hasCell(x, y)) {
            return OUTSIDE;
        }
        return isIn(plan.barred[y], x) ? 1 : 0;
    }

    // ---- bills

    public int paste(int k, int x, int y) {
        if (!plan.hasKind(k)) {
            return UNKNOWN;
        }
        if (!plan.holds(k, x, y)) {
            return OUTSIDE;
        }
        if (plan.isBarred(k, x, y)) {
            return NOT;
        }
        if (bills.isFull()) {
            return FULL;
        }
        sight.lookAt(bills);
        sight.weigh(bills, k, x, y);
        bills.fines[plan.owners[k]] += sight.due;
        bills.hang(k, x, y);
        return bills.count - 1;
    }

    public int days(int n) {
        if (n < 0 || n > 999) {
            return OUTSIDE;
        }
        bills.today += n;
        return bills.today;
    }

    public int above(int x, int y) {
        return plan.hasCell(x, y) ? bills.topAt(cellAt(x, y)) : OUTSIDE;
    }

    public int bill(int b, int what) {
        if (!bills.has(b)) {
            return UNKNOWN;
        }
        sight.lookAt(bills);
        switch (what) {
            case 0:
                return bills.kinds[b];
            case 1:
                return bills.columns[b];
            case 2:
                return bills.rows[b];
            case 3:
                return bills.pastedOn[b];
            case 4:
                return sight.seen[b];
            case 5:
                return bills.tornCells(b);
            case 6:
                return plan.canRead(sight.seen[b], bills.allCells(b)) ? 1 : 0;
            case 7:
                return sight.worthOf(bills, b);
            case 8:
                return bills.isOn(b) ? 1 : 0;
            default:
                return OUTSIDE;
        }
    }

    public int over(int b) {
        return bills.has(b) ? bills.coversOf(b) : UNKNOWN;
    }

    public int free(int b) {
        if (!bills.has(b)) {
            return UNKNOWN;
        }
        return bills.isOn(b) ? bills.toFree(b) : NOT;
    }

    public int reveal(int b) {
        if (!bills.has(b)) {
            return UNKNOWN;
        }
        if (!bills.isOn(b) || Integer.bitCount(bills.toFree(b)) > MOST_TO_FREE) {
            return NOT;
        }
        return lifting.toRead(bills, b);
    }

    public int peel(int b) {
        if (!bills.has(b)) {
            return UNKNOWN;
        }
        if (!bills.isOn(b) || bills.coversOf(b) != 0) {
            return NOT;
        }
        return bills.takeOff(b);
    }

    public int tear(int x, int y) {
        return plan.hasCell(x, y) ? bills.tearTop(cellAt(x, y)) : OUTSIDE;
    }

    public int rain(int k) {
        return k < 0 || k > 100 ? OUTSIDE : bills.loosen(k);
    }

    public int owner(int o, int what) {
        if (o < 0 || o >= OWNERS) {
            return UNKNOWN;
        }
        switch (what) {
            case 0:
                sight.lookAt(bills);
                return sight.worthOfOwner(bills, o);
            case 1:
                return bills.fines[o];
            case 2:
                return bills.hangingOf(o);
            default:
                return OUTSIDE;
        }
    }

    // ---- a photograph

    public int show(int k, int x, int y) {
        if (!plan.hasKind(k)) {
            return UNKNOWN;
        }
        if (!plan.holds(k, x, y)) {
            return OUTSIDE;
        }
        if (photograph.count >= MOST_SHOWN) {
            return FULL;
        }
        photograph.add(k, x, y);
        return photograph.count - 1;
    }

    public int look(int x, int y, int b) {
        if (b != NONE && !photograph.has(b)) {
            return UNKNOWN;
        }
        if (!plan.hasCell(x, y)) {
            return OUTSIDE;
        }
        photograph.tops[cellAt(x, y)] = b;
        return 1;
    }

    public int burn() {
        int had = photograph.count;
        photograph.forget();
        return had;
    }

    public int orders() {
        return photograph.countOrders();
    }

    public int order(int i) {
        return i < 0 ? OUTSIDE : photograph.firstOrderAt(i);
    }

    public int surely(int a, int b) {
        if (a == b || !photograph.has(a) || !photograph.has(b)) {
            return UNKNOWN;
        }
        return photograph.liesOver(a, b) ? 1 : 0;
    }

    // ---- places

    public int best(int k, int what) {
        if (!plan.hasKind(k)) {
            return UNKNOWN;
        }
        if (what < 0 || what > 2) {
            return OUTSIDE;
        }
        if (bills.isFull()) {
            return NOT;
        }
        places.findOne(bills, k);
        if (!places.found) {
            return NOT;
        }
        switch (what) {
            case 0:
                return places.column;
            case 1:
                return places.row;
            default:
                return places.gain;
        }
    }

    public int two(int k, int j, int what) {
        if (!plan.hasKind(k) || !plan.hasKind(j)) {
            return UNKNOWN;
        }
        if (what < 0 || what > 4) {
            return OUTSIDE;
        }
        if (plan.owners[k] != plan.owners[j] || bills.count > MOST_BILLS - 2) {
            return NOT;
        }
        places.findTwo(bills, k, j);
        if (!places.found) {
            return NOT;
        }
        switch (what) {
            case 0:
                return places.column;
            case 1:
                return places.row;
            case 2:
                return places.secondColumn;
            case 3:
                return places.secondRow;
            default:
                return places.gain;
        }
    }

    public int rivals(int k, int j, int n, int what) {
        if (!plan.hasKind(k) || !plan.hasKind(j)) {
            return UNKNOWN;
        }
        if (n < 1 || n > 12 || what < 0 || what > 2) {
            return OUTSIDE;
        }
        places.compete(bills, k, j, n);
        switch (what) {
            case 0:
                return places.worthAtLast(k);
            case 1:
                return places.worthAtLast(j);
            default:
                return places.pasted;
        }
    }

    // ---- draws, images

    public int seed(int v) {
        if (v < 0) {
            return OUTSIDE;
        }
        int was = bills.draws;
        bills.draws = v;
        return was;
    }

    public int keep(int i) {
        if (i < 0 || i > 1) {
            return UNKNOWN;
        }
        Image image = imageOf(i);
        image.bills.copyFrom(bills);
        image.kept = true;
        return 1;
    }

    public int goBack(int i) {
        if (i < 0 || i > 1) {
            return UNKNOWN;
        }
        Image image = imageOf(i);
        if (!image.kept) {
            return NOT;
        }
        bills.copyFrom(image.bills);
        return 1;
    }

    private Image imageOf(int i) {
        return i == 0 ? firstImage : secondImage;
    }

    private static boolean isIn(int set, int member) {
        return (set >> member & 1) != 0;
    }

    private static int cellAt(int x, int y) {
        return y * MOST_COLUMNS + x;
    }

    /** THE WALL as it is told: all that stays as it is while BILLS come and go. */
    private static final class Plan {
        private int columns, rows, guard, fine, percent, strips, kinds;
        private final int[] passers = new int[MOST_COLUMNS];
        /** Of each row the SET of columns at which a strip is. */
        private final int[] barred = new int[MOST_ROWS];
        private final int[] owners = new int[MOST_KINDS];
        private final int[] widths = new int[MOST_KINDS];
        private final int[] heights = new int[MOST_KINDS];

        Plan() {
            untell();
        }

        void untell() {
            columns = MOST_COLUMNS;
            rows = MOST_ROWS;
            guard = 3;
            fine = 10;
            percent = 60;
            strips = 0;
            kinds = 0;
            Arrays.fill(passers, 1);
            Arrays.fill(barred, 0);
        }

        void copyFrom(Plan other) {
            columns = other.columns;
            rows = other.rows;
            guard = other.guard;
            fine = other.fine;
            percent = other.percent;
            strips = other.strips;
            kinds = other.kinds;
            System.arraycopy(other.passers, 0, passers, 0, MOST_COLUMNS);
            System.arraycopy(other.barred, 0, barred, 0, MOST_ROWS);
            System.arraycopy(other.owners, 0, owners, 0, MOST_KINDS);
            System.arraycopy(other.widths, 0, widths, 0, MOST_KINDS);
            System.arraycopy(other.heights, 0, heights, 0, MOST_KINDS);
        }

        void addStrip(int x, int y, int width, int height) {
            int across = ((1 << width) - 1) << x;
            for (int line = y; line < y + height && line < MOST_ROWS; line++) {
                barred[line] |= across;
            }
            strips++;
        }

        void addKind(int owner, int width, int height) {
            if (kinds < MOST_KINDS) {
                owners[kinds] = owner;
                widths[kinds] = width;
                heights[kinds] = height;
                kinds++;
            }
        }

        boolean hasKind(int k) {
            return k >= 0 && k < kinds;
        }

        boolean hasCell(int x, int y) {
            return x >= 0 && x < columns && y >= 0 && y < rows;
        }

        boolean holds(int k, int x, int y) {
            return x >= 0 && y >= 0 && x <= columns - widths[k] && y <= rows - heights[k];
        }

        boolean isBarred(int k, int x, int y) {
            int across = ((1 << widths[k]) - 1) << x;
            for (int line = y; line < y + heights[k]; line++) {
                if ((barred[line] & across) != 0) {
                    return true;
                }
            }
            return false;
        }

        boolean canRead(int seen, int all) {
            return 100 * seen >= percent * all;
        }

        /** How many pass the CELLS of a KIND that hangs from a column on, if all of it is seen. */
        int passersOf(int k, int x) {
            int sum = 0;
            for (int line = x; line < x + widths[k]; line++) {
                sum += passers[line];
            }
            return sum * heights[k];
        }
    }

    /** THE TEXT, and the way from it to a plan or to its first FAULT. */
    private static final class Reader {
        private static final int SIZE = 0, GUARD = 1, FINE = 2, READ = 3, BARE = 4, PASS = 5, KIND = 6, CLAUSES = 7;
        private static final int WRONG_HERE = 1, BAD_NUMBER = 2, TOLD_BEFORE = 3, COLUMN_TOLD_BEFORE = 4;

        private final char[] text = new char[MOST_BYTES];
        private int length;
        private int place;
        private int numberPlace;
        private int faultNumber;
        private int faultPlace = NONE;
        private int toldClauses;
        private int toldColumns;

        boolean append(int n, long bytes) {
            if (length + n > MOST_BYTES) {
                return false;
            }
            for (int i = n - 1; i >= 0; i--) {
                text[length] = (char) (bytes >>> (8 * i) & 255L);
                length++;
            }
            return true;
        }

        boolean readInto(Plan plan) {
            place = 0;
            faultNumber = 0;
            faultPlace = NONE;
            toldClauses = 0;
            toldColumns = 0;
            plan.untell();
            skipBlanks();
            for (int i = 0; i < MOST_BYTES && place < length && isFaultless(); i++) {
                readClause(plan);
                skipBlanks();
            }
            return isFaultless();
        }

        private boolean isFaultless() {
            return faultNumber == 0;
        }

        private void fail(int number, int where) {
            // what follows the first FAULT is not looked at
            if (faultNumber == 0) {
                faultNumber = number;
                faultPlace = where;
            }
        }

        private void readClause(Plan plan) {
            int start = place;
            int clause = readWord();
            if (clause == NONE || clause == SIZE && isSizeTooLate()) {
                fail(WRONG_HERE, start);
                return;
            }
            if (isTold(plan, clause)) {
                fail(TOLD_BEFORE, start);
                return;
            }
            toldClauses |= 1 << clause;
            readNumbers(plan, clause);
            readEnd();
        }

        private boolean isSizeTooLate() {
            return isIn(toldClauses, BARE) || isIn(toldClauses, PASS) || isIn(toldClauses, KIND);
        }

        private boolean isTold(Plan plan, int clause) {
            switch (clause) {
                case BARE:
                    return plan.strips >= MOST_STRIPS;
                case KIND:
                    return plan.kinds >= MOST_KINDS;
                case PASS:
                    return false;
                default:
                    return isIn(toldClauses, clause);
            }
        }

        private void readNumbers(Plan plan, int clause) {
            switch (clause) {
                case SIZE:
                    plan.columns = readNumber(1, MOST_COLUMNS);
                    plan.rows = readNumber(1, MOST_ROWS);
                    break;
                case GUARD:
                    plan.guard = readNumber(0, 99);
                    break;
                case FINE:
                    plan.fine = readNumber(0, 999);
                    break;
                case READ:
                    plan.percent = readNumber(1, 100);
                    break;
                case BARE:
                    readStrip(plan);
                    break;
                case PASS:
                    readPassers(plan);
                    break;
                default:
                    readKind(plan);
                    break;
            }
        }

        private void readStrip(Plan plan) {
            int x = readNumber(0, plan.columns - 1);
            int y = readNumber(0, plan.rows - 1);
            int width = readNumber(1, plan.columns - x);
            int height = readNumber(1, plan.rows - y);
            if (isFaultless()) {
                plan.addStrip(x, y, width, height);
            }
        }

        private void readPassers(Plan plan) {
            int x = readNumber(0, plan.columns - 1);
            if (isIn(toldColumns, x)) {
                fail(COLUMN_TOLD_BEFORE, numberPlace);
            }
            int n = readNumber(0, 99);
            if (isFaultless()) {
                plan.passers[x] = n;
                toldColumns |= 1 << x;
            }
        }

        private void readKind(Plan plan) {
            int owner = readNumber(0, OWNERS - 1);
            int width = readNumber(1, plan.columns);
            int height = readNumber(1, plan.rows);
            if (isFaultless()) {
                plan.addKind(owner, width, height);
            }
        }

        /** A NUMBER within its bounds; the lower one, if there is a FAULT. */
        private int readNumber(int low, int high) {
            skipBlanks();
            numberPlace = place;
            int value = 0;
            int figures = 0;
            for (; place < length && isFigure(text[place]); place++) {
                figures++;
                // a longer one is a FAULT whatever it is worth, and must not wrap around
                if (figures <= 3) {
                    value = value * 10 + (text[place] - '0');
                }
            }
            if (figures == 0) {
                fail(WRONG_HERE, numberPlace);
            } else if (figures > 3 || value < low || value > high) {
                fail(BAD_NUMBER, numberPlace);
            }
            return isFaultless() ? value : low;
        }

        private void readEnd() {
            skipBlanks();
            if (place < length && text[place] == ';') {
                place++;
            } else {
                fail(WRONG_HERE, place);
            }
        }

        private void skipBlanks() {
            while (place < length && text[place] == ' ') {
                place++;
            }
        }

        /** The clause that the letters here name; NONE, if they name none. */
        private int readWord() {
            int start = place;
            while (place < length && isLetter(text[place])) {
                place++;
            }
            for (int clause = 0; clause < CLAUSES; clause++) {
                if (spells(start, nameOf(clause))) {
                    return clause;
                }
            }
            return NONE;
        }

        private boolean spells(int start, String word) {
            if (place - start != word.length()) {
                return false;
            }
            for (int i = 0; i < word.length(); i++) {
                if (text[start + i] != word.charAt(i)) {
                    return false;
                }
            }
            return true;
        }

        private static String nameOf(int clause) {
            switch (clause) {
                case SIZE:
                    return "size";
                case GUARD:
                    return "guard";
                case FINE:
                    return "fine";
                case READ:
                    return "read";
                case BARE:
                    return "bare";
                case PASS:
                    return "pass";
                default:
                    return "kind";
            }
        }

        private static boolean isLetter(char sign) {
            return sign >= 'a' && sign <= 'z';
        }

        private static boolean isFigure(char sign) {
            return sign >= '0' && sign <= '9';
        }
    }

    /** All that an IMAGE keeps: BILLS, THE DAY, FINES, THE SEED. */
    private static final class Bills {
        private final Plan plan;
        private int count, today, draws;
        private final int[] kinds = new int[MOST_BILLS];
        private final int[] columns = new int[MOST_BILLS];
        private final int[] rows = new int[MOST_BILLS];
        private final int[] pastedOn = new int[MOST_BILLS];
        private final int[] fines = new int[OWNERS];
        private int on;
        /** Of each CELL the SET of those that have it and are not TORN there. */
        private final int[] whole = new int[MOST_CELLS];
        /** Of each CELL the SET of those that have it and are TORN there. */
        private final int[] torn = new int[MOST_CELLS];

        Bills(Plan plan) {
            this.plan = plan;
        }

        /** THE SEED is left as it is. */
        void takeAllAway() {
            count = 0;
            today = 0;
            on = 0;
            Arrays.fill(fines, 0);
            Arrays.fill(whole, 0);
            Arrays.fill(torn, 0);
        }

        void copyFrom(Bills other) {
            count = other.count;
            today = other.today;
            draws = other.draws;
            on = other.on;
            System.arraycopy(other.kinds, 0, kinds, 0, MOST_BILLS);
            System.arraycopy(other.columns, 0, columns, 0, MOST_BILLS);
            System.arraycopy(other.rows, 0, rows, 0, MOST_BILLS);
            System.arraycopy(other.pastedOn, 0, pastedOn, 0, MOST_BILLS);
            System.arraycopy(other.fines, 0, fines, 0, OWNERS);
            System.arraycopy(other.whole, 0, whole, 0, MOST_CELLS);
            System.arraycopy(other.torn, 0, torn, 0, MOST_CELLS);
        }

        boolean has(int b) {
            return b >= 0 && b < count;
        }

        boolean isFull() {
            return count >= MOST_BILLS;
        }

        boolean isOn(int b) {
            return isIn(on, b);
        }

        int ownerOf(int b) {
            return plan.owners[kinds[b]];
        }

        int allCells(int b) {
            return plan.widths[kinds[b]] * plan.heights[kinds[b]];
        }

        int right(int b) {
            return columns[b] + plan.widths[kinds[b]];
        }

        int bottom(int b) {
            return rows[b] + plan.heights[kinds[b]];
        }

        int topAt(int cell) {
            // the latest has the highest bit, and no bit at all makes it NONE
            return 31 - Integer.numberOfLeadingZeros(whole[cell]);
        }

        void hang(int k, int x, int y) {
            if (isFull()) {
                return;
            }
            int b = count;
            count++;
            kinds[b] = k;
            columns[b] = x;
            rows[b] = y;
            pastedOn[b] = today;
            on |= 1 << b;
            for (int line = y; line < bottom(b); line++) {
                for (int column = x; column < right(b); column++) {
                    whole[cellAt(column, line)] |= 1 << b;
                }
            }
        }

        /** At how many CELLS another one comes to be ABOVE in its stead. */
        int takeOff(int b) {
            int uncovered = 0;
            for (int y = rows[b]; y < bottom(b); y++) {
                for (int x = columns[b]; x < right(b); x++) {
                    int cell = cellAt(x, y);
                    boolean wasTop = topAt(cell) == b;
                    whole[cell] &= ~(1 << b);
                    torn[cell] &= ~(1 << b);
                    if (wasTop && topAt(cell) != NONE) {
                        uncovered++;
                    }
                }
            }
            on &= ~(1 << b);
            return uncovered;
        }

        /** As though the latest had never been pasted. */
        void undoHang() {
            if (count > 0) {
                takeOff(count - 1);
                count--;
            }
        }

        int tearTop(int cell) {
            int b = topAt(cell);
            if (b != NONE) {
                whole[cell] &= ~(1 << b);
                torn[cell] |= 1 << b;
            }
            return b;
        }

        int loosen(int k) {
            int tornNow = 0;
            for (int y = 0; y < plan.rows; y++) {
                for (int x = 0; x < plan.columns; x++) {
                    int cell = cellAt(x, y);
                    if (topAt(cell) != NONE && drawOfHundred() < k) {
                        tearTop(cell);
                        tornNow++;
                    }
                }
            }
            return tornNow;
        }

        private int drawOfHundred() {
            draws = (int) ((draws * 1103515245L + 12345L) % 2147483648L);
            return draws / 65536 % 100;
        }

        int tornCells(int b) {
            int sum = 0;
            for (int y = rows[b]; y < bottom(b); y++) {
                for (int x = columns[b]; x < right(b); x++) {
                    if (isIn(torn[cellAt(x, y)], b)) {
                        sum++;
                    }
                }
            }
            return sum;
        }

        int hangingOf(int owner) {
            int sum = 0;
            for (int b = 0; b < count; b++) {
                if (isOn(b) && ownerOf(b) == owner) {
                    sum++;
                }
            }
            return sum;
        }

        int coversOf(int b) {
            int set = 0;
            for (int y = rows[b]; y < bottom(b); y++) {
                for (int x = columns[b]; x < right(b); x++) {
                    int here = whole[cellAt(x, y)];
                    if (isIn(here, b)) {
                        set |= here;
                    }
                }
            }
            return laterThan(set, b);
        }

        int toFree(int b) {
            int set = coversOf(b);
            // a cover is always later than what it covers: one way up meets them all
            for (int c = b + 1; c < count; c++) {
                if (isIn(set, c)) {
                    set |= coversOf(c);
                }
            }
            return set;
        }

        static int laterThan(int set, int b) {
            return set >> (b + 1) << (b + 1);
        }
    }

    private static final class Image {
        private final Bills bills;
        private boolean kept;

        Image(Plan plan) {
            bills = new Bills(plan);
        }
    }

    /** What is seen of all BILLS, and what a new one would hide of it. */
    private static final class Sight {
        private final Plan plan;
        private final int[] tops = new int[MOST_CELLS];
        private final int[] seen = new int[MOST_BILLS];
        private final int[] passers = new int[MOST_BILLS];
        private final int[] lostSeen = new int[MOST_BILLS];
        private final int[] lostPassers = new int[MOST_BILLS];
        private int gain, due;

        Sight(Plan plan) {
            this.plan = plan;
        }

        void lookAt(Bills bills) {
            Arrays.fill(seen, 0);
            Arrays.fill(passers, 0);
            for (int y = 0; y < plan.rows; y++) {
                for (int x = 0; x < plan.columns; x++) {
                    int cell = cellAt(x, y);
                    int b = bills.topAt(cell);
                    tops[cell] = b;
                    if (b != NONE) {
                        seen[b]++;
                        passers[b] += plan.passers[x];
                    }
                }
            }
        }

        int worthOf(Bills bills, int b) {
            return plan.canRead(seen[b], bills.allCells(b)) ? passers[b] : 0;
        }

        int worthOfOwner(Bills bills, int owner) {
            int sum = 0;
            for (int b = 0; b < bills.count; b++) {
                if (bills.ownerOf(b) == owner) {
                    sum += worthOf(bills, b);
                }
            }
            return sum;
        }

        /** Leaves in gain and due what a new one would bring its OWNER and cost in FINES. */
        void weigh(Bills bills, int k, int x, int y) {
            int hit = hide(k, x, y);
            due = 0;
            gain = plan.passersOf(k, x);
            if (hit == 0) {
                return;
            }
            for (int b = 0; b < bills.count; b++) {
                if (isIn(hit, b)) {
                    weighLoss(bills, b, plan.owners[k]);
                    lostSeen[b] = 0;
                    lostPassers[b] = 0;
                }
            }
            gain -= due;
        }

        /** The SET of those that would lose SEEN CELLS. */
        private int hide(int k, int x, int y) {
            int hit = 0;
            int bottom = y + plan.heights[k];
            int right = x + plan.widths[k];
            for (int line = y; line < bottom; line++) {
                for (int column = x; column < right; column++) {
                    int b = tops[cellAt(column, line)];
                    if (b != NONE) {
                        hit |= 1 << b;
                        lostSeen[b]++;
                        lostPassers[b] += plan.passers[column];
                    }
                }
            }
            return hit;
        }

        private void weighLoss(Bills bills, int b, int owner) {
            if (bills.ownerOf(b) == owner) {
                int all = bills.allCells(b);
                gain -= plan.canRead(seen[b], all) ? passers[b] : 0;
                gain += plan.canRead(seen[b] - lostSeen[b], all) ? passers[b] - lostPassers[b] : 0;
            } else if (bills.today - bills.pastedOn[b] < plan.guard) {
                due += plan.fine;
            }
        }
    }

    /** Which must come off so that one can be READ again. */
    private static final class Lifting {
        private final Plan plan;
        private final int[] covers = new int[MOST_BILLS];
        /** Of each CELL at which the one is not TORN the SET of those that lie over it. */
        private final int[] hiding = new int[MOST_CELLS];
        private int cells;

        Lifting(Plan plan) {
            this.plan = plan;
        }

        int toRead(Bills bills, int b) {
            lookUnder(bills, b);
            int all = bills.allCells(b);
            int most = bills.toFree(b);
            int least = NONE;
            int fewest = MOST_BILLS + 1;
            int set = 0;
            int sets = 1 << Integer.bitCount(most);
            // upwards through all parts of most, so that of like ones the least is met first
            for (int i = 0; i < sets; i++) {
                int size = Integer.bitCount(set);
                if (size < fewest && isLiftable(bills, set) && plan.canRead(seenWithout(set), all)) {
                    fewest = size;
                    least = set;
                }
                set = set - most & most;
            }
            return least;
        }

        private void lookUnder(Bills bills, int b) {
            for (int c = 0; c < bills.count; c++) {
                covers[c] = bills.coversOf(c);
            }
            cells = 0;
            for (int y = bills.rows[b]; y < bills.bottom(b); y++) {
                for (int x = bills.columns[b]; x < bills.right(b); x++) {
                    int here = bills.whole[cellAt(x, y)];
                    if (isIn(here, b)) {
                        hiding[cells] = Bills.laterThan(here, b);
                        cells++;
                    }
                }
            }
        }

        private boolean isLiftable(Bills bills, int set) {
            for (int c = 0; c < bills.count; c++) {
                if (isIn(set, c) && (covers[c] & ~set) != 0) {
                    return false;
                }
            }
            return true;
        }

        private int seenWithout(int set) {
            int sum = 0;
            for (int i = 0; i < cells; i++) {
                if ((hiding[i] & ~set) == 0) {
                    sum++;
                }
            }
            return sum;
        }
    }

    /** THE BEST PLACE, THE BEST TWO and RIVALS, tried without a change to what hangs. */
    private static final class Places {
        private final Plan plan;
        private final Bills trial;
        private final Sight now;
        private final Sight then;
        private boolean found;
        private int column, row, secondColumn, secondRow, gain;
        private int pasted;

        Places(Plan plan) {
            this.plan = plan;
            trial = new Bills(plan);
            now = new Sight(plan);
            then = new Sight(plan);
        }

        void findOne(Bills bills, int k) {
            found = false;
            now.lookAt(bills);
            for (int y = 0; y <= plan.rows - plan.heights[k]; y++) {
                for (int x = 0; x <= plan.columns - plan.widths[k]; x++) {
                    if (!plan.isBarred(k, x, y)) {
                        now.weigh(bills, k, x, y);
                        if (isBetter(now.gain)) {
                            column = x;
                            row = y;
                        }
                    }
                }
            }
        }

        void findTwo(Bills bills, int k, int j) {
            found = false;
            now.lookAt(bills);
            trial.copyFrom(bills);
            for (int y = 0; y <= plan.rows - plan.heights[k]; y++) {
                for (int x = 0; x <= plan.columns - plan.widths[k]; x++) {
                    if (!plan.isBarred(k, x, y)) {
                        now.weigh(bills, k, x, y);
                        trial.hang(k, x, y);
                        findSecond(x, y, now.gain, j);
                        trial.undoHang();
                    }
                }
            }
        }

        private void findSecond(int firstX, int firstY, int firstGain, int j) {
            then.lookAt(trial);
            for (int y = 0; y <= plan.rows - plan.heights[j]; y++) {
                for (int x = 0; x <= plan.columns - plan.widths[j]; x++) {
                    // a new one never brings more than all that pass it: most need no weighing
                    boolean canBeBetter = !found || firstGain + plan.passersOf(j, x) > gain;
                    if (canBeBetter && !plan.isBarred(j, x, y)) {
                        then.weigh(trial, j, x, y);
                        if (isBetter(firstGain + then.gain)) {
                            column = firstX;
                            row = firstY;
                            secondColumn = x;
                            secondRow = y;
                        }
                    }
                }
            }
        }

        private boolean isBetter(int newGain) {
            if (found && newGain <= gain) {
                return false;
            }
            found = true;
            gain = newGain;
            return true;
        }

        void compete(Bills bills, int k, int j, int n) {
            trial.copyFrom(bills);
            pasted = 0;
            for (int day = 0; day < n; day++) {
                takeTurn(k);
                takeTurn(j);
                trial.today++;
            }
            now.lookAt(trial);
        }

        private void takeTurn(int k) {
            if (trial.isFull()) {
                return;
            }
            findOne(trial, k);
            if (found && gain > 0) {
                trial.hang(k, column, row);
                pasted++;
            }
        }

        /** WORTH of a KIND's OWNER behind the latest compete. */
        int worthAtLast(int k) {
            return now.worthOfOwner(trial, plan.owners[k]);
        }
    }

    /** Where BILLS hang in a picture, which is told to be ABOVE, and the ORDERS that this leaves. */
    private static final class Photograph {
        private static final int UNTOLD = -2;

        private final Plan plan;
        private int count;
        /** Of each CELL the SET of those that have it. */
        private final int[] here = new int[MOST_CELLS];
        private final int[] tops = new int[MOST_CELLS];
        private final int[] below = new int[MOST_SHOWN];
        private final int[] first = new int[MOST_SHOWN];
        private final int[] ways = new int[1 << MOST_SHOWN];

        Photograph(Plan plan) {
            this.plan = plan;
            forget();
        }

        void forget() {
            count = 0;
            Arrays.fill(here, 0);
            Arrays.fill(tops, UNTOLD);
        }

        boolean has(int b) {
            return b >= 0 && b < count;
        }

        void add(int k, int x, int y) {
            if (count >= MOST_SHOWN) {
                return;
            }
            for (int line = y; line < y + plan.heights[k]; line++) {
                for (int column = x; column < x + plan.widths[k]; column++) {
                    here[cellAt(column, line)] |= 1 << count;
                }
            }
            count++;
        }

        int countOrders() {
            if (!relate()) {
                return 0;
            }
            int sets = 1 << count;
            ways[0] = 1;
            for (int set = 1; set < sets; set++) {
                ways[set] = 0;
                for (int b = 0; b < count; b++) {
                    int others = set & ~(1 << b);
                    if (others != set && (below[b] & ~others) == 0) {
                        ways[set] += ways[others];
                    }
                }
            }
            return ways[sets - 1];
        }

        int firstOrderAt(int i) {
            return i < count && hasOrder() ? first[i] : NONE;
        }

        boolean liesOver(int a, int b) {
            if (!hasOrder()) {
                return false;
            }
            int set = below[a];
            // downwards through THE FIRST ORDER: what lies below one of the set was placed ahead of it
            for (int i = count - 1; i >= 0; i--) {
                if (isIn(set, first[i])) {
                    set |= below[first[i]];
                }
            }
            return isIn(set, b);
        }

        /** Whether there is an ORDER; the first of them is then in first, what each lies over in below. */
        private boolean hasOrder() {
            if (!relate()) {
                return false;
            }
            int placed = 0;
            for (int i = 0; i < count; i++) {
                int b = leastThatCanStand(placed);
                if (b == NONE) {
                    return false;
                }
                first[i] = b;
                placed |= 1 << b;
            }
            return true;
        }

        private int leastThatCanStand(int placed) {
            for (int b = 0; b < count; b++) {
                if (!isIn(placed, b) && (below[b] & ~placed) == 0) {
                    return b;
                }
            }
            return NONE;
        }

        /** Fills below; false, if it is IMPOSSIBLE. */
        private boolean relate() {
            Arrays.fill(below, 0);
            for (int cell = 0; cell < MOST_CELLS; cell++) {
                int b = tops[cell];
                if (b == NONE && here[cell] != 0 || b >= 0 && !isIn(here[cell], b)) {
                    return false;
                }
                if (b >= 0) {
                    below[b] |= here[cell] & ~(1 << b);
                }
            }
            return true;
        }
    }
}
