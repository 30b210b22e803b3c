import java.util.ArrayList;
import java.util.Arrays;
import java.util.HashMap;
import java.util.List;
import java.util.Map;
import java.util.Set;
import java.util.TreeSet;

/** The document word by word, without regard to speed: what BillWall is compared with. */
final class PlainWall {
    static final int UNKNOWN = -100000001, OUTSIDE = -100000002, NOT = -100000003, FULL = -100000004, NONE = -1;

    private static final class Sheet {
        int kind, x, y, day;
        boolean on = true;
        final Set<Integer> torn = new TreeSet<>();

        Sheet copy() {
            Sheet copy = new Sheet();
            copy.kind = kind;
            copy.x = x;
            copy.y = y;
            copy.day = day;
            copy.on = on;
            copy.torn.addAll(torn);
            return copy;
        }
    }

    private static final class State {
        final List<Sheet> sheets = new ArrayList<>();
        int day;
        int[] fines = new int[6];
        long seed;

        State copy() {
            State copy = new State();
            for (Sheet sheet : sheets) {
                copy.sheets.add(sheet.copy());
            }
            copy.day = day;
            copy.fines = fines.clone();
            copy.seed = seed;
            return copy;
        }
    }

    private static final class Told {
        int columns = 16, rows = 8, guard = 3, fine = 10, read = 60, strips = 0;
        final Set<Integer> bare = new TreeSet<>();
        final Map<Integer, Integer> pass = new HashMap<>();
        final List<int[]> kinds = new ArrayList<>();
    }

    private Told told = new Told();
    private State state = new State();
    private final State[] images = new State[2];
    private String text = "";
    private int fault = NONE;
    private final List<int[]> shown = new ArrayList<>();
    private final Map<Integer, Integer> looks = new HashMap<>();

    private static int cell(int x, int y) {
        return 100 * y + x;
    }

    private Set<Integer> cellsOf(int kind, int x, int y) {
        Set<Integer> cells = new TreeSet<>();
        for (int i = 0; i < told.kinds.get(kind)[1]; i++) {
            for (int j = 0; j < told.kinds.get(kind)[2]; j++) {
                cells.add(cell(x + i, y + j));
            }
        }
        return cells;
    }

    private Set<Integer> cellsOf(Sheet sheet) {
        return cellsOf(sheet.kind, sheet.x, sheet.y);
    }

    private boolean isKind(int k) {
        return k >= 0 && k < told.kinds.size();
    }

    private boolean isCell(long x, long y) {
        return x >= 0 && y >= 0 && x < told.columns && y < told.rows;
    }

    private boolean isWithin(int k, long x, long y) {
        int[] kind = told.kinds.get(k);
        return isCell(x, y) && isCell(x + kind[1] - 1, y + kind[2] - 1);
    }

    private boolean isOnBare(int k, int x, int y) {
        Set<Integer> cells = cellsOf(k, x, y);
        cells.retainAll(told.bare);
        return !cells.isEmpty();
    }

    // ---- the wall

    int feed(int n, long bytes) {
        if (n < 1 || n > 8) {
            return OUTSIDE;
        }
        if (text.length() + n > 300) {
            return FULL;
        }
        for (int i = n - 1; i >= 0; i--) {
            text += (char) (bytes >> 8 * i & 255);
        }
        return text.length();
    }

    private static final class Fault extends Exception {
        private static final long serialVersionUID = 1L;
        final int number, place;

        Fault(int number, int place) {
            super("fault");
            this.number = number;
            this.place = place;
        }
    }

    private record Token(char sort, int place, String sign) {
    }

    /** Words are sort w, NUMBERS n, all else that is no blank x or ';', the end e. */
    private List<Token> tokens() {
        List<Token> tokens = new ArrayList<>();
        int at = 0;
        while (at < text.length()) {
            int end = at + 1;
            String rest = text.substring(at);
            String word = rest.replaceAll("(?s)^([a-z]*).*$", "$1");
            String number = rest.replaceAll("(?s)^([0-9]*).*$", "$1");
            if (!word.isEmpty()) {
                tokens.add(new Token('w', at, word));
                end = at + word.length();
            } else if (!number.isEmpty()) {
                tokens.add(new Token('n', at, number));
                end = at + number.length();
            } else if (rest.charAt(0) != ' ') {
                tokens.add(new Token(rest.charAt(0) == ';' ? ';' : 'x', at, rest.substring(0, 1)));
            }
            at = end;
        }
        tokens.add(new Token('e', text.length(), ""));
        return tokens;
    }

    private int next;

    private int number(List<Token> tokens, int low, int high) throws Fault {
        Token token = tokens.get(next);
        if (token.sort() != 'n') {
            throw new Fault(1, token.place());
        }
        int value = token.sign().length() > 3 ? high + 1 : Integer.parseInt(token.sign());
        if (value < low || value > high) {
            throw new Fault(2, token.place());
        }
        next++;
        return value;
    }

    private Told readText() throws Fault {
        Told draft = new Told();
        List<Token> tokens = tokens();
        List<String> had = new ArrayList<>();
        next = 0;
        while (tokens.get(next).sort() != 'e') {
            Token word = tokens.get(next);
            if (!List.of("size", "guard", "fine", "read", "bare", "pass", "kind").contains(word.sign())) {
                throw new Fault(1, word.place());
            }
            if (word.sign().equals("size") && (had.contains("bare") || had.contains("pass") || had.contains("kind"))) {
                throw new Fault(1, word.place());
            }
            int most = switch (word.sign()) {
                case "bare" -> 8;
                case "kind" -> 12;
                case "pass" -> 300;
                default -> 1;
            };
            if (had.stream().filter(word.sign()::equals).count() >= most) {
                throw new Fault(3, word.place());
            }
            had.add(word.sign());
            next++;
            readClause(draft, tokens, word.sign());
            if (tokens.get(next).sort() != ';') {
                throw new Fault(1, tokens.get(next).place());
            }
            next++;
        }
        return draft;
    }

    private void readClause(Told draft, List<Token> tokens, String word) throws Fault {
        switch (word) {
            case "size" -> {
                draft.columns = number(tokens, 1, 16);
                draft.rows = number(tokens, 1, 8);
            }
            case "guard" -> draft.guard = number(tokens, 0, 99);
            case "fine" -> draft.fine = number(tokens, 0, 999);
            case "read" -> draft.read = number(tokens, 1, 100);
            case "bare" -> {
                int x = number(tokens, 0, draft.columns - 1);
                int y = number(tokens, 0, draft.rows - 1);
                int w = number(tokens, 1, draft.columns - x);
                int h = number(tokens, 1, draft.rows - y);
                for (int i = 0; i < w * h; i++) {
                    draft.bare.add(cell(x + i % w, y + i / w));
                }
                draft.strips++;
            }
            case "pass" -> {
                int place = tokens.get(next).place();
                int x = number(tokens, 0, draft.columns - 1);
                if (draft.pass.containsKey(x)) {
                    throw new Fault(4, place);
                }
                draft.pass.put(x, number(tokens, 0, 99));
            }
            default -> {
                int o = number(tokens, 0, 5);
                int w = number(tokens, 1, draft.columns);
                draft.kinds.add(new int[] {o, w, number(tokens, 1, draft.rows)});
            }
        }
    }

    int wall() {
        try {
            told = readText();
            fault = NONE;
            long seed = state.seed;
            state = new State();
            state.seed = seed;
            images[0] = null;
            images[1] = null;
            burn();
            return told.kinds.size();
        } catch (Fault found) {
            fault = found.place;
            return -10 - found.number;
        } finally {
            text = "";
        }
    }

    int fault() {
        return fault;
    }

    int told(int what) {
        int[] all = {told.columns, told.rows, told.guard, told.fine, told.read, told.strips, told.kinds.size(),
            state.sheets.size(), state.day, text.length(), shown.size()};
        return what < 0 || what >= all.length ? OUTSIDE : all[what];
    }

    int kind(int k, int what) {
        if (!isKind(k)) {
            return UNKNOWN;
        }
        return what < 0 || what > 2 ? OUTSIDE : told.kinds.get(k)[what];
    }

    int passes(int x) {
        return isCell(x, 0) ? told.pass.getOrDefault(x, 1) : OUTSIDE;
    }

    int bare(int x, int y) {
        if (!isCell(x, y)) {
            return OUTSIDE;
        }
        return told.bare.contains(cell(x, y)) ? 1 : 0;
    }

    // ---- bills

    private static final int[] NO_ONE = {};

    private boolean isWhole(State s, int b, int cell) {
        Sheet sheet = s.sheets.get(b);
        return sheet.on && cellsOf(sheet).contains(cell) && !sheet.torn.contains(cell);
    }

    private int above(State s, int cell) {
        for (int b = s.sheets.size() - 1; b >= 0; b--) {
            if (isWhole(s, b, cell)) {
                return b;
            }
        }
        return NONE;
    }

    private Set<Integer> seen(State s, int b) {
        Set<Integer> cells = cellsOf(s.sheets.get(b));
        cells.removeIf(cell -> above(s, cell) != b);
        return cells;
    }

    private boolean isRead(State s, int b) {
        return 100 * seen(s, b).size() >= told.read * cellsOf(s.sheets.get(b)).size();
    }

    private int worth(State s, int b) {
        return isRead(s, b) ? seen(s, b).stream().mapToInt(cell -> passes(cell % 100)).sum() : 0;
    }

    private int ownerOf(State s, int b) {
        return told.kinds.get(s.sheets.get(b).kind)[0];
    }

    private int worthOfOwner(State s, int o) {
        int sum = 0;
        for (int b = 0; b < s.sheets.size(); b++) {
            sum += ownerOf(s, b) == o ? worth(s, b) : 0;
        }
        return sum;
    }

    private void hang(State s, int k, int x, int y) {
        State before = s.copy();
        Sheet sheet = new Sheet();
        sheet.kind = k;
        sheet.x = x;
        sheet.y = y;
        sheet.day = s.day;
        s.sheets.add(sheet);
        int o = told.kinds.get(k)[0];
        for (int b = 0; b < before.sheets.size(); b++) {
            boolean loses = seen(s, b).size() < seen(before, b).size();
            if (ownerOf(s, b) != o && s.day - s.sheets.get(b).day < told.guard && loses) {
                s.fines[o] += told.fine;
            }
        }
    }

    int paste(int k, int x, int y) {
        if (!isKind(k)) {
            return UNKNOWN;
        }
        if (!isWithin(k, x, y)) {
            return OUTSIDE;
        }
        if (isOnBare(k, x, y)) {
            return NOT;
        }
        if (state.sheets.size() >= 20) {
            return FULL;
        }
        hang(state, k, x, y);
        return state.sheets.size() - 1;
    }

    int days(int n) {
        if (n < 0 || n > 999) {
            return OUTSIDE;
        }
        return state.day += n;
    }

    int above(int x, int y) {
        return isCell(x, y) ? above(state, cell(x, y)) : OUTSIDE;
    }

    private boolean isBill(int b) {
        return b >= 0 && b < state.sheets.size();
    }

    int bill(int b, int what) {
        if (!isBill(b)) {
            return UNKNOWN;
        }
        Sheet sheet = state.sheets.get(b);
        return switch (what) {
            case 0 -> sheet.kind;
            case 1 -> sheet.x;
            case 2 -> sheet.y;
            case 3 -> sheet.day;
            case 4 -> seen(state, b).size();
            case 5 -> sheet.on ? sheet.torn.size() : 0;
            case 6 -> isRead(state, b) ? 1 : 0;
            case 7 -> worth(state, b);
            case 8 -> sheet.on ? 1 : 0;
            default -> OUTSIDE;
        };
    }

    private boolean covers(State s, int a, int b) {
        for (int cell : cellsOf(s.sheets.get(b))) {
            if (a > b && isWhole(s, a, cell) && isWhole(s, b, cell)) {
                return true;
            }
        }
        return false;
    }

    private int over(State s, int b) {
        int set = 0;
        for (int a = 0; a < s.sheets.size(); a++) {
            set |= covers(s, a, b) ? 1 << a : 0;
        }
        return set;
    }

    int over(int b) {
        return isBill(b) ? over(state, b) : UNKNOWN;
    }

    private int toFree(int b) {
        int set = over(state, b);
        for (int round = 0; round < 20; round++) {
            for (int a = 0; a < state.sheets.size(); a++) {
                set |= (set >> a & 1) == 1 ? over(state, a) : 0;
            }
        }
        return set;
    }

    int free(int b) {
        if (!isBill(b)) {
            return UNKNOWN;
        }
        return state.sheets.get(b).on ? toFree(b) : NOT;
    }

    /** What is left, if all of the SET are taken off one by one; null, if that can't be. */
    private State lifted(int set) {
        State s = state.copy();
        for (int a = s.sheets.size() - 1; a >= 0; a--) {
            if ((set >> a & 1) == 1) {
                if (over(s, a) != 0) {
                    return null;
                }
                s.sheets.get(a).on = false;
            }
        }
        return s;
    }

    int reveal(int b) {
        if (!isBill(b)) {
            return UNKNOWN;
        }
        if (!state.sheets.get(b).on || Integer.bitCount(toFree(b)) > 12) {
            return NOT;
        }
        int most = toFree(b);
        for (int size = 0; size <= Integer.bitCount(most); size++) {
            for (int set = 0; set <= most; set++) {
                if ((set & ~most) == 0 && Integer.bitCount(set) == size) {
                    State s = lifted(set);
                    if (s != null && isRead(s, b)) {
                        return set;
                    }
                }
            }
        }
        return NONE;
    }

    int peel(int b) {
        if (!isBill(b)) {
            return UNKNOWN;
        }
        if (!state.sheets.get(b).on || over(state, b) != 0) {
            return NOT;
        }
        Set<Integer> was = seen(state, b);
        state.sheets.get(b).on = false;
        return (int) was.stream().filter(cell -> above(state, cell) != NONE).count();
    }

    private int tear(int cell) {
        int b = above(state, cell);
        if (b != NONE) {
            state.sheets.get(b).torn.add(cell);
        }
        return b;
    }

    int tear(int x, int y) {
        return isCell(x, y) ? tear(cell(x, y)) : OUTSIDE;
    }

    int rain(int k) {
        if (k < 0 || k > 100) {
            return OUTSIDE;
        }
        int sum = 0;
        for (int y = 0; y < told.rows; y++) {
            for (int x = 0; x < told.columns; x++) {
                if (above(state, cell(x, y)) != NONE) {
                    state.seed = (state.seed * 1103515245L + 12345L) % (1L << 31);
                    if (state.seed / 65536 % 100 < k) {
                        tear(cell(x, y));
                        sum++;
                    }
                }
            }
        }
        return sum;
    }

    int owner(int o, int what) {
        if (o < 0 || o > 5) {
            return UNKNOWN;
        }
        int hanging = 0;
        for (int b = 0; b < state.sheets.size(); b++) {
            hanging += state.sheets.get(b).on && ownerOf(state, b) == o ? 1 : 0;
        }
        return switch (what) {
            case 0 -> worthOfOwner(state, o);
            case 1 -> state.fines[o];
            case 2 -> hanging;
            default -> OUTSIDE;
        };
    }

    // ---- a photograph

    int show(int k, int x, int y) {
        if (!isKind(k)) {
            return UNKNOWN;
        }
        if (!isWithin(k, x, y)) {
            return OUTSIDE;
        }
        if (shown.size() >= 10) {
            return FULL;
        }
        shown.add(new int[] {k, x, y});
        return shown.size() - 1;
    }

    private boolean isShown(int b) {
        return b >= 0 && b < shown.size();
    }

    int look(int x, int y, int b) {
        if (b != NONE && !isShown(b)) {
            return UNKNOWN;
        }
        if (!isCell(x, y)) {
            return OUTSIDE;
        }
        looks.put(cell(x, y), b);
        return 1;
    }

    int burn() {
        int had = shown.size();
        shown.clear();
        looks.clear();
        return had;
    }

    /** All ORDERS, the first one first. */
    private List<int[]> allOrders() {
        List<int[]> found = new ArrayList<>();
        boolean[][] over = new boolean[10][10];
        for (Map.Entry<Integer, Integer> look : looks.entrySet()) {
            boolean hasIt = false;
            for (int b = 0; b < shown.size(); b++) {
                int[] bill = shown.get(b);
                boolean has = cellsOf(bill[0], bill[1], bill[2]).contains(look.getKey());
                if (has && look.getValue() == NONE) {
                    return found;
                }
                hasIt |= has && look.getValue() == b;
                if (has && look.getValue() >= 0 && look.getValue() != b) {
                    over[look.getValue()][b] = true;
                }
            }
            if (look.getValue() >= 0 && !hasIt) {
                return found;
            }
        }
        extend(NO_ONE, over, found);
        return found;
    }

    private void extend(int[] row, boolean[][] over, List<int[]> found) {
        if (row.length == shown.size()) {
            found.add(row);
            return;
        }
        for (int b = 0; b < shown.size(); b++) {
            boolean can = true;
            for (int placed : row) {
                can &= placed != b && !over[placed][b];
            }
            if (can) {
                int[] longer = Arrays.copyOf(row, row.length + 1);
                longer[row.length] = b;
                extend(longer, over, found);
            }
        }
    }

    int orders() {
        return allOrders().size();
    }

    int order(int i) {
        if (i < 0) {
            return OUTSIDE;
        }
        List<int[]> all = allOrders();
        return all.isEmpty() || i >= shown.size() ? NONE : all.get(0)[i];
    }

    private static int placeOf(int[] row, int b) {
        for (int i = 0; i < row.length; i++) {
            if (row[i] == b) {
                return i;
            }
        }
        return NONE;
    }

    int surely(int a, int b) {
        if (!isShown(a) || !isShown(b) || a == b) {
            return UNKNOWN;
        }
        List<int[]> all = allOrders();
        boolean always = all.stream().allMatch(row -> placeOf(row, a) > placeOf(row, b));
        return always && !all.isEmpty() ? 1 : 0;
    }

    // ---- places

    private List<int[]> places(int k) {
        List<int[]> places = new ArrayList<>();
        for (int y = 0; y < told.rows; y++) {
            for (int x = 0; x < told.columns; x++) {
                if (isWithin(k, x, y) && !isOnBare(k, x, y)) {
                    places.add(new int[] {x, y});
                }
            }
        }
        return places;
    }

    private int gain(State before, State then, int o) {
        return worthOfOwner(then, o) - worthOfOwner(before, o) - (then.fines[o] - before.fines[o]);
    }

    private int[] best(State s, int k) {
        int[] found = null;
        for (int[] place : places(k)) {
            State then = s.copy();
            hang(then, k, place[0], place[1]);
            int gain = gain(s, then, told.kinds.get(k)[0]);
            if (found == null || gain > found[2]) {
                found = new int[] {place[0], place[1], gain};
            }
        }
        return found;
    }

    int best(int k, int what) {
        if (!isKind(k)) {
            return UNKNOWN;
        }
        if (what < 0 || what > 2) {
            return OUTSIDE;
        }
        int[] found = state.sheets.size() >= 20 ? null : best(state, k);
        return found == null ? NOT : found[what];
    }

    int two(int k, int j, int what) {
        if (!isKind(k) || !isKind(j)) {
            return UNKNOWN;
        }
        if (what < 0 || what > 4) {
            return OUTSIDE;
        }
        int o = told.kinds.get(k)[0];
        if (o != told.kinds.get(j)[0] || state.sheets.size() >= 19) {
            return NOT;
        }
        int[] found = null;
        for (int[] first : places(k)) {
            State one = state.copy();
            hang(one, k, first[0], first[1]);
            for (int[] second : places(j)) {
                State both = one.copy();
                hang(both, j, second[0], second[1]);
                int gain = gain(state, both, o);
                if (found == null || gain > found[4]) {
                    found = new int[] {first[0], first[1], second[0], second[1], gain};
                }
            }
        }
        return found == null ? NOT : found[what];
    }

    int rivals(int k, int j, int n, int what) {
        if (!isKind(k) || !isKind(j)) {
            return UNKNOWN;
        }
        if (n < 1 || n > 12 || what < 0 || what > 2) {
            return OUTSIDE;
        }
        State s = state.copy();
        int pasted = 0;
        for (int day = 0; day < n; day++) {
            for (int turn : new int[] {k, j}) {
                int[] found = best(s, turn);
                if (s.sheets.size() < 20 && found != null && found[2] > 0) {
                    hang(s, turn, found[0], found[1]);
                    pasted++;
                }
            }
            s.day++;
        }
        return what == 2 ? pasted : worthOfOwner(s, told.kinds.get(what == 0 ? k : j)[0]);
    }

    // ---- draws, images

    int seed(int v) {
        if (v < 0) {
            return OUTSIDE;
        }
        int was = (int) state.seed;
        state.seed = v;
        return was;
    }

    int keep(int i) {
        if (i < 0 || i > 1) {
            return UNKNOWN;
        }
        images[i] = state.copy();
        return 1;
    }

    int goBack(int i) {
        if (i < 0 || i > 1) {
            return UNKNOWN;
        }
        if (images[i] == null) {
            return NOT;
        }
        state = images[i].copy();
        return 1;
    }
}
