import java.util.Arrays;
import java.util.NoSuchElementException;

/** A turtle that swims where it likes, and what stands on its back; told as a text, lived day by day. */
public final class TurtleBack {
    /** There is none; refused. */
    public static final int NONE = -1;

    private static final int CANNOT_BE = -2;
    private static final int DAYS_ROOM = 200;
    private static final int IMAGE_ROOM = 4;

    private static final int NO_SUCH = 1;
    private static final int NUMBER = 2;
    private static final int NO_ROOM = 3;
    private static final int FAULTY = 4;
    private static final int NOT_SO = 5;
    private static final int NOTHING = 6;

    private static final int LEFT = 0;
    private static final int STRAIGHT = 1;
    private static final int RIGHT = 2;

    private final Reader reader = new Reader();
    private final Life life = new Life();
    private final State[] images = new State[IMAGE_ROOM];
    private final Acts acts = new Acts();
    private final Moves moves = new Moves();
    private final Course course = new Course();
    private final Chart chart = new Chart();
    private final Sightings sightings = new Sightings();
    private Beast draft = new Beast();
    private boolean told;
    private int imageCount;
    private int latestFault;
    private int latestPlace = NONE;
    private int latestTrouble;

    public TurtleBack() {
        for (int i = 0; i < images.length; i++) images[i] = new State();
    }

    // ---- the beast

    public int feed(int a, int b, int c, int d, int e) {
        if (!reader.hasRoomFor(20)) return NONE;
        reader.pour(a);
        reader.pour(b);
        reader.pour(c);
        reader.pour(d);
        reader.pour(e);
        return reader.length();
    }

    public int beast(int n) {
        if (refused(outside(n, 0, reader.length()) ? NUMBER : 0)) return NONE;
        latestFault = reader.read(n, draft);
        latestPlace = reader.place();
        if (refused(latestFault != 0 ? FAULTY : 0)) return NONE;
        takeDraft();
        return life.beast.count(Beast.SCUTE);
    }

    /** The two beasts change places, so that the rows of the one that is gone are used again. */
    private void takeDraft() {
        draft = life.begin(draft);
        told = true;
        acts.forget();
        sightings.forget();
        imageCount = 0;
    }

    public int fault() {
        return latestFault;
    }

    public int where() {
        return latestTrouble == FAULTY ? latestPlace : NONE;
    }

    // ---- days

    public boolean seed(int v) {
        if (refused(!told ? NO_SUCH : outside(v, 0, Life.DRAWS - 1) ? NUMBER : 0)) return false;
        life.now.seed = v;
        return true;
    }

    public int days(int n) {
        int no = !told ? NO_SUCH : outside(n, 1, 60) ? NUMBER : life.now.day + n > DAYS_ROOM ? NO_ROOM : 0;
        if (refused(no)) return NONE;
        for (int i = 0; i < n; i++) life.passDay();
        acts.forget();
        return life.now.day;
    }

    public int now(int what) {
        if (refused(!told || outside(what, 0, 7) ? NO_SUCH : 0)) return NONE;
        switch (what) {
            case 0: return Sea.first(life.now.cell);
            case 1: return Sea.second(life.now.cell);
            case 2: return life.now.heading;
            case 3: return life.now.hunger;
            case 4: return life.now.coins;
            case 5: return life.now.dives;
            case 6: return life.now.bought;
            default: return life.now.claimed;
        }
    }

    public int pleased() {
        return refused(!told ? NO_SUCH : 0) ? -1000 : life.now.pleased;
    }

    public int log(int t, int what) {
        if (refused(!told || outside(t, 0, life.now.day) || outside(what, 0, 1) ? NO_SUCH : 0)) return NONE;
        int cell = life.cellBehind(t);
        return what == 0 ? Sea.first(cell) : Sea.second(cell);
    }

    public int house(int h, int what) {
        if (refused(noLine(Beast.HOUSE, h) || outside(what, 0, 1) ? NO_SUCH : 0)) return NONE;
        return what == 0 ? life.houseFate(h) : life.isTied(h) ? 1 : 0;
    }

    public int family(int f, int what) {
        if (refused(noLine(Beast.FAMILY, f) || outside(what, 0, 1) ? NO_SUCH : 0)) return NONE;
        return what == 0 ? life.familyFate(f) : life.homeOf(f);
    }

    public int scute(int s, int what) {
        if (refused(noLine(Beast.SCUTE, s) || outside(what, 0, 2) ? NO_SUCH : 0)) return NONE;
        if (what == 0) return life.isGone(s) ? 1 : 0;
        return what == 1 ? life.loadOf(s) : life.barnaclesOf(s);
    }

    public int list() {
        return refused(!told ? NO_SUCH : 0) ? -100_000 : life.lean(0);
    }

    public int pitch() {
        return refused(!told ? NO_SUCH : 0) ? -100_000 : life.lean(1);
    }

    public int judge() {
        if (refused(!told ? NO_SUCH : 0)) return NONE;
        for (int s = 0; s < life.beast.count(Beast.SCUTE); s++) {
            if (life.loadOf(s) > life.beast.value(Beast.SCUTE, s, Beast.HOLDS)) return s;
        }
        return CANNOT_BE;
    }

    public int lost() {
        if (refused(!told ? NO_SUCH : 0)) return NONE;
        int worth = 0;
        for (int h = 0; h < life.beast.count(Beast.HOUSE); h++) {
            if (life.houseFate(h) == Life.LOST) worth += life.beast.value(Beast.HOUSE, h, Beast.WORTH);
        }
        return worth;
    }

    // ---- acts

    public boolean move(int family, int scute) {
        boolean none = noLine(Beast.FAMILY, family) || noLine(Beast.SCUTE, scute);
        if (refused(none ? NO_SUCH : !life.canMove(family, scute) ? NOT_SO : 0)) return false;
        acts.note(Acts.MOVED, family, life.homeOf(family));
        life.settle(family, scute);
        return true;
    }

    public boolean tie(int house, boolean on) {
        boolean none = noLine(Beast.HOUSE, house);
        boolean notSo = !none && (life.houseFate(house) != Life.THERE || life.isTied(house) == on);
        if (refused(none ? NO_SUCH : notSo ? NOT_SO : 0)) return false;
        acts.note(Acts.TIED, house, 0);
        life.toggleTie(house);
        return true;
    }

    public boolean pay(int coins) {
        int no = !told ? NO_SUCH : outside(coins, 1, 99) ? NUMBER : life.now.coins < coins ? NOT_SO : 0;
        if (refused(no)) return false;
        acts.note(Acts.PAID, coins, 0);
        life.now.coins -= coins;
        life.now.pleased += coins;
        return true;
    }

    public boolean scrape(int scute) {
        boolean none = noLine(Beast.SCUTE, scute);
        boolean notSo = !none && (life.isGone(scute) || life.barnaclesOf(scute) == 0);
        if (refused(none ? NO_SUCH : notSo ? NOT_SO : 0)) return false;
        acts.note(Acts.SCRAPED, scute, life.barnaclesOf(scute));
        life.setBarnacles(scute, 0);
        life.now.pleased++;
        return true;
    }

    public boolean undo() {
        if (refused(acts.count() == 0 ? NOTHING : 0)) return false;
        acts.takeBack(life);
        return true;
    }

    // ---- trim, helm

    public int trim(int a, int b) {
        if (refused(!told ? NO_SUCH : noBounds(a, b) ? NUMBER : 0)) return NONE;
        return moves.findTrim(life, a, b);
    }

    public int trimAt(int a, int b, int family) {
        boolean none = noLine(Beast.FAMILY, family) || life.familyFate(family) != Life.THERE;
        if (refused(none ? NO_SUCH : noBounds(a, b) ? NUMBER : 0)) return NONE;
        if (refused(moves.findTrim(life, a, b) < 0 ? NOTHING : 0)) return NONE;
        return moves.bestHome(family);
    }

    public int helm() {
        if (refused(!told ? NO_SUCH : 0)) return NONE;
        return moves.findHelm(life);
    }

    public int steer(int x, int y) {
        if (refused(!told ? NO_SUCH : !Sea.isCell(x, y) ? NUMBER : 0)) return NONE;
        return course.find(life, moves.findHelm(life), Sea.cellAt(x, y));
    }

    public int turn(int x, int y, int i) {
        if (refused(!told ? NO_SUCH : !Sea.isCell(x, y) ? NUMBER : 0)) return NONE;
        int length = course.find(life, moves.findHelm(life), Sea.cellAt(x, y));
        if (refused(outside(i, 0, length - 1) ? NOTHING : 0)) return NONE;
        return course.turnOf(i);
    }

    // ---- charts

    public long ways(int n, int x, int y) {
        int no = !told ? NO_SUCH : outside(n, 0, Chart.MOST_DAYS) || !Sea.isCell(x, y) ? NUMBER : 0;
        if (refused(no)) return NONE;
        chart.draw(life, n);
        return chart.waysTo(Sea.cellAt(x, y));
    }

    public int may(int n) {
        if (refused(!told ? NO_SUCH : outside(n, 0, Chart.MOST_DAYS) ? NUMBER : 0)) return NONE;
        chart.draw(life, n);
        return chart.countCells();
    }

    public int span(int n, int what) {
        boolean none = !told || outside(what, 0, 3);
        if (refused(none ? NO_SUCH : outside(n, 0, Chart.MOST_DAYS) ? NUMBER : 0)) return NONE;
        chart.draw(life, n);
        return chart.edge(what);
    }

    public int seen(int day, int x, int y) {
        boolean wrong = outside(day, 0, Sightings.LAST_DAY) || !Sea.isCell(x, y);
        if (refused(!told ? NO_SUCH : wrong ? NUMBER : sightings.isFull() ? NO_ROOM : 0)) return NONE;
        sightings.add(day, Sea.cellAt(x, y));
        return sightings.count();
    }

    public int fits() {
        if (refused(!told ? NO_SUCH : 0)) return NONE;
        return sightings.countFits();
    }

    public int was(int day, int what) {
        boolean none = !told || outside(what, 0, 3);
        if (refused(none ? NO_SUCH : outside(day, 0, Sightings.LAST_DAY) ? NUMBER : 0)) return NONE;
        boolean nothing = sightings.count() == 0 || day > sightings.lastDay() || sightings.countFits() == 0;
        if (refused(nothing ? NOTHING : 0)) return NONE;
        return sightings.edge(day, what);
    }

    // ---- tying down

    public int save(int minutes) {
        if (refused(noMinutes(minutes))) return NONE;
        return Ropes.worthOf(life, Ropes.bestHouses(life, minutes));
    }

    public int saved(int minutes) {
        if (refused(noMinutes(minutes))) return NONE;
        return Ropes.bestHouses(life, minutes);
    }

    public int must() {
        if (refused(!told ? NO_SUCH : 0)) return NONE;
        return moves.minutesAsTheyAre(life);
    }

    public int shelter() {
        if (refused(!told ? NO_SUCH : 0)) return NONE;
        return moves.findShelter(life);
    }

    // ---- images, what is seen

    public int image() {
        if (refused(!told ? NO_SUCH : imageCount >= IMAGE_ROOM ? NO_ROOM : 0)) return NONE;
        State kept = imageAt(imageCount);
        if (kept == null) return NONE;
        kept.copy(life.now);
        imageCount++;
        return imageCount - 1;
    }

    public boolean restore(int image) {
        State kept = outside(image, 0, imageCount - 1) ? null : imageAt(image);
        latestTrouble = kept == null ? NO_SUCH : 0;
        if (kept == null) return false;
        life.now.copy(kept);
        acts.forget();
        return true;
    }

    private State imageAt(int i) {
        return i < 0 || i >= images.length ? null : images[i];
    }

    public int led(int i) throws NoSuchElementException {
        int h = told ? life.lostHouse(i) : NONE;
        if (h == NONE) throw new NoSuchElementException();
        return h;
    }

    public int size(int what) {
        if (what >= 0 && what <= 6) return life.beast.count(Beast.SCUTE + what);
        switch (what) {
            case 7: return life.now.day;
            case 8: return life.now.seed;
            case 9: return reader.length();
            case 10: return sightings.count();
            case 11: return imageCount;
            case 12: return acts.count();
            default: return NONE;
        }
    }

    public int trouble() {
        return latestTrouble;
    }

    // ---- what refuses a call

    private boolean refused(int number) {
        latestTrouble = number;
        return number != 0;
    }

    private static boolean outside(int number, int least, int greatest) {
        return number < least || number > greatest;
    }

    private static boolean noBounds(int a, int b) {
        return outside(a, 0, 9999) || outside(b, 0, 9999);
    }

    private boolean noLine(int sort, int line) {
        return !told || outside(line, 0, life.beast.count(sort) - 1);
    }

    private int noMinutes(int minutes) {
        return !told ? NO_SUCH : outside(minutes, 0, 360) ? NUMBER : 0;
    }

    /**
     * Cells as numbers 0 .. 99 (ten times the second whole, and the first), spots as numbers 0 .. 799 (eight times
     * the cell, and the heading).
     */
    private static final class Sea {
        static final int SIDE = 10;
        static final int CELLS = 100;
        static final int SPOTS = 800;
        private static final int[] ACROSS = {0, 1, 1, 1, 0, -1, -1, -1};
        private static final int[] DOWN = {-1, -1, 0, 1, 1, 1, 0, -1};

        static boolean isCell(int x, int y) {
            return x >= 0 && x < SIDE && y >= 0 && y < SIDE;
        }

        static int cellAt(int x, int y) {
            return y * SIDE + x;
        }

        static int first(int cell) {
            return cell % SIDE;
        }

        static int second(int cell) {
            return cell / SIDE;
        }

        static int spotAt(int cell, int heading) {
            return (cell << 3) + (heading & 7);
        }

        static int cellOf(int spot) {
            return spot >> 3;
        }

        static int headingOf(int spot) {
            return spot & 7;
        }

        /** Where one is, and how one heads, behind a day's swim. */
        static int swimFrom(int spot) {
            int heading = headingOf(spot);
            int cell = cellOf(spot);
            int x = first(cell) + ACROSS[heading];
            int y = second(cell) + DOWN[heading];
            return isCell(x, y) ? spotAt(cellAt(x, y), heading) : spotAt(cell, heading + 4);
        }

        static int turned(int heading, int turn) {
            return heading + turn - STRAIGHT & 7;
        }

        static int apart(int cell, int other) {
            int across = Math.abs(first(cell) - first(other));
            int down = Math.abs(second(cell) - second(other));
            return Math.max(across, down);
        }

        private static int signOf(int number) {
            return number < 0 ? -1 : number > 0 ? 1 : 0;
        }

        /** The heading by the signs of both differences; the one there is if there are none. */
        static int towards(int goal, int cell, int heading) {
            int across = signOf(first(goal) - first(cell));
            int down = signOf(second(goal) - second(cell));
            for (int h = 0; h < ACROSS.length && h < DOWN.length; h++) {
                if (ACROSS[h] == across && DOWN[h] == down) return h;
            }
            return heading;
        }

        /** Of the cells that are marked (not 0): 0 the least first whole, 1 the greatest, 2, 3 of the second ones. */
        static int edge(int[] marks, int what) {
            int edge = NONE;
            for (int cell = 0; cell < marks.length; cell++) {
                if (marks[cell] == 0) continue;
                int whole = what < 2 ? first(cell) : second(cell);
                boolean better = (what & 1) == 0 ? whole < edge : whole > edge;
                if (edge == NONE || better) edge = whole;
            }
            return edge;
        }
    }

    /** What a text tells: lines of nine sorts, each with up to six wholes. */
    private static final class Beast {
        static final int LAW = 0;
        static final int BEGINS = 1;
        static final int SCUTE = 2;
        static final int HOUSE = 3;
        static final int FAMILY = 4;
        static final int FIELD = 5;
        static final int WEED = 6;
        static final int ISLE = 7;
        static final int PARTING = 8;
        static final int SORTS = 9;
        static final int WIDTH = 6;

        static final int KEEL = 0;
        static final int FEELS = 2;
        static final int DIVES = 3;
        static final int CALM = 4;
        static final int HUNGRY = 5;
        static final int ON = 0;
        static final int WEIGHS = 1;
        static final int TIES = 2;
        static final int WORTH = 3;
        static final int HOLDS = 2;
        static final int HEADS = 2;
        static final int ITCH = 1;
        static final int FROM = 2;
        static final int TO = 3;
        static final int BUYS = 4;
        static final int DAY = 1;
        static final int IS_YOUNG = 2;

        private static final int MOST_LINES = 8;
        private static final int MOST_NAMES = 22;
        private static final int[] ROOM = {1, 1, 8, 6, 4, 4, 4, 4, 3};

        private final int[] counts = new int[SORTS];
        private final int[] wholes = new int[SORTS * MOST_LINES * WIDTH];
        private final long[] names = new long[MOST_NAMES];
        private final int[] nameScutes = new int[MOST_NAMES];
        private int nameCount;

        void clear() {
            Arrays.fill(counts, 0);
            nameCount = 0;
        }

        int count(int sort) {
            return sort < 0 || sort >= counts.length ? 0 : counts[sort];
        }

        boolean lacks() {
            return count(LAW) == 0 || count(BEGINS) == 0 || count(SCUTE) == 0;
        }

        boolean isFull(int sort) {
            return sort < 0 || sort >= ROOM.length || count(sort) >= ROOM[sort];
        }

        /** 0 for what wasn't told. */
        int value(int sort, int line, int which) {
            if (sort < 0 || sort >= SORTS || line < 0 || line >= counts[sort] || which < 0 || which >= WIDTH) return 0;
            int at = (sort * MOST_LINES + line) * WIDTH + which;
            return at < 0 || at >= wholes.length ? 0 : wholes[at];
        }

        void add(int sort, int[] row) {
            if (isFull(sort) || row.length < WIDTH || sort >= counts.length) return;
            int at = (sort * MOST_LINES + counts[sort]) * WIDTH;
            if (at < 0 || at + WIDTH > wholes.length) return;
            System.arraycopy(row, 0, wholes, at, WIDTH);
            counts[sort]++;
        }

        void tellName(long name, int scute) {
            if (nameCount < 0 || nameCount >= names.length || nameCount >= nameScutes.length) return;
            names[nameCount] = name;
            nameScutes[nameCount] = scute;
            nameCount++;
        }

        boolean isTold(long name) {
            for (int i = 0; i < nameCount && i < names.length; i++) {
                if (names[i] == name) return true;
            }
            return false;
        }

        /** NONE if the name isn't told, or is not a scute's. */
        int scuteNamed(long name) {
            for (int i = 0; i < nameCount && i < names.length && i < nameScutes.length; i++) {
                if (names[i] == name) return nameScutes[i];
            }
            return NONE;
        }

        boolean parts(int scute) {
            for (int i = 0; i < count(PARTING); i++) {
                if (value(PARTING, i, ON) == scute) return true;
            }
            return false;
        }

        int law(int which) {
            return value(LAW, 0, which);
        }

        int cellOfWeed(int weed) {
            return Sea.cellAt(value(WEED, weed, 0), value(WEED, weed, 1));
        }

        int cellOfIsle(int isle) {
            return Sea.cellAt(value(ISLE, isle, 0), value(ISLE, isle, 1));
        }

        boolean isWeedAt(int cell) {
            for (int i = 0; i < count(WEED); i++) {
                if (cellOfWeed(i) == cell) return true;
            }
            return false;
        }

        int nearestWeed(int cell) {
            int best = NONE;
            for (int i = 0; i < count(WEED); i++) {
                int weed = cellOfWeed(i);
                if (best == NONE || Sea.apart(weed, cell) < Sea.apart(best, cell)) best = weed;
            }
            return best;
        }

        /** How far a scute lies from the keel (0), from the middle (1). */
        int offset(int scute, int axis) {
            return value(SCUTE, scute, axis) - law(KEEL + axis);
        }
    }

    /** Holds the tape, and reads it from the left, token by token, up to its first fault. */
    private static final class Reader {
        private static final int TAPE_ROOM = 900;

        private static final int FORM = 1;
        private static final int UNKNOWN = 2;
        private static final int AGAIN = 3;
        private static final int BOUNDS = 4;
        private static final int MANY = 5;
        private static final int LACKS = 6;

        private static final int BAD = 0;
        private static final int WORD = 1;
        private static final int WHOLE = 2;
        private static final int SIGN = 3;
        private static final int END = 4;

        private static final String SORT_WORDS = "law begins scute house family field weed isle moult young ";
        private static final int YOUNG = 9;
        /** The bounds of each sort's wholes, six a sort. */
        private static final int[] LEAST = {
            0, 0, 1, 1, 0, 1,
            0, 0, 0, 0, 0, 0,
            0, 0, 1, 0, 0, 0,
            0, 1, 1, 1, 0, 0,
            0, 1, 0, 0, 0, 0,
            0, 1, 0, 0, 0, 0,
            0, 0, 0, 0, 0, 0,
            0, 0, 1, 1, 1, 0,
            0, 1, 0, 0, 0, 0,
        };
        private static final int[] GREATEST = {
            9, 9, 99, 30, 99, 30,
            9, 9, 7, 0, 0, 0,
            9, 9, 99, 0, 0, 0,
            7, 30, 60, 99, 0, 0,
            7, 30, 0, 0, 0, 0,
            7, 9, 0, 0, 0, 0,
            9, 9, 0, 0, 0, 0,
            9, 9, 99, 99, 99, 0,
            7, 99, 1, 0, 0, 0,
        };

        private final byte[] tape = new byte[TAPE_ROOM];
        private final int[] row = new int[Beast.WIDTH];
        private int length;
        private int end;
        private int at;
        private int kind;
        private int start;
        private long token;
        private int sort;
        private int filled;
        private int fault;
        private int faultPlace;

        int length() {
            return length;
        }

        boolean hasRoomFor(int bytes) {
            return length + bytes <= TAPE_ROOM;
        }

        /** Four bytes, the highest first. */
        void pour(int number) {
            for (int shift = 24; shift >= 0; shift -= 8) {
                if (length < 0 || length >= TAPE_ROOM) return;
                tape[length] = (byte) (number >>> shift);
                length++;
            }
        }

        int place() {
            return faultPlace;
        }

        /** Empties the tape. The fault of its first bytes, 0 without one; the beast is whole only then. */
        int read(int bytes, Beast beast) {
            end = Math.min(bytes, length);
            length = 0;
            at = 0;
            fault = 0;
            faultPlace = NONE;
            beast.clear();
            advance();
            for (int lines = 0; lines <= end; lines++) {
                readLine(beast);
                if (fault != 0 || kind == END) break;
                if (isSign(';')) advance();
                else fail(FORM);
            }
            if (beast.lacks()) fail(LACKS);
            return fault;
        }

        /** Only the first fault counts: it is met at the token that stands now. */
        private void fail(int number) {
            if (fault != 0) return;
            fault = number;
            faultPlace = start;
        }

        // ---- tokens

        private int byteAt(int i) {
            return i < 0 || i >= end || i >= TAPE_ROOM ? NONE : tape[i];
        }

        private static boolean isLetter(int sign) {
            return sign >= 'a' && sign <= 'z';
        }

        private static boolean isDigit(int sign) {
            return sign >= '0' && sign <= '9';
        }

        private boolean isSign(int sign) {
            return kind == SIGN && token == sign;
        }

        private void advance() {
            for (int i = at; i < end && byteAt(i) == ' '; i++) at = i + 1;
            start = at;
            int sign = byteAt(at);
            token = sign;
            kind = BAD;
            if (at >= end) kind = END;
            else if (isLetter(sign)) readWord();
            else if (isDigit(sign)) readWhole();
            else if (sign == ';' || sign == ',') {
                kind = SIGN;
                at++;
            }
        }

        private void readWord() {
            token = 0;
            for (int i = at; i < end && isLetter(byteAt(i)); i++) {
                token = withLetter(token, byteAt(i));
                at = i + 1;
            }
            kind = at - start <= 8 ? WORD : BAD;
        }

        private void readWhole() {
            token = 0;
            for (int i = at; i < end && isDigit(byteAt(i)); i++) {
                token = token * 10 + byteAt(i) - '0';
                at = i + 1;
            }
            kind = at - start <= 3 ? WHOLE : BAD;
        }

        /** Words of up to eight letters are told apart by one number. */
        private static long withLetter(long word, int letter) {
            return word * 32 + letter - 'a' + 1;
        }

        /** Which of the words that begin lines the token is; NONE if none. */
        private int sortWord() {
            long word = 0;
            int which = 0;
            for (int i = 0; i < SORT_WORDS.length() && kind == WORD; i++) {
                char letter = SORT_WORDS.charAt(i);
                if (letter != ' ') word = withLetter(word, letter);
                else if (word == token) return which;
                else {
                    word = 0;
                    which++;
                }
            }
            return NONE;
        }

        // ---- lines

        /** Letters stand for themselves, # for a whole, @ for a new name, $ for a scute's name. */
        private static String formOf(int which) {
            switch (which) {
                case 0: return "keel#mid#feels#dives#calm#hungry#";
                case 1: return "at#,#heads#";
                case 2: return "@at#,#holds#";
                case 3: return "@on$weighs#ties#worth#";
                case 4: return "@on$weighs#";
                case 5: return "on$itch#";
                case 6: return "at#,#";
                case 7: return "@at#,#from#to#buys#";
                default: return "$day#";
            }
        }

        private void readLine(Beast beast) {
            int which = sortWord();
            if (which == NONE) {
                fail(FORM);
                return;
            }
            sort = Math.min(which, Beast.PARTING);
            if (beast.isFull(sort)) {
                fail(sort <= Beast.BEGINS ? AGAIN : MANY);
                return;
            }
            filled = 0;
            advance();
            readParts(beast, formOf(which));
            if (fault != 0) return;
            if (sort == Beast.PARTING) keep(which == YOUNG ? 1 : 0);
            beast.add(sort, row);
        }

        private void readParts(Beast beast, String form) {
            int next = 0;
            for (int i = 0; i < form.length(); i++) {
                if (i < next) continue;
                next = i + 1;
                char part = form.charAt(i);
                if (part == '#') checkWhole();
                else if (part == '@') checkNewName(beast);
                else if (part == '$') checkScute(beast);
                else if (part == ',') checkComma();
                else {
                    next = wordEnd(form, i);
                    checkWord(form, i, next);
                }
                if (fault != 0) return;
                advance();
            }
        }

        private static int wordEnd(String form, int from) {
            int to = from;
            for (int i = from; i < form.length() && isLetter(form.charAt(i)); i++) to = i + 1;
            return to;
        }

        private void checkWord(String form, int from, int to) {
            long word = 0;
            for (int i = from; i >= 0 && i < to && i < form.length(); i++) word = withLetter(word, form.charAt(i));
            if (kind != WORD || token != word) fail(FORM);
        }

        private void checkComma() {
            if (!isSign(',')) fail(FORM);
        }

        private void checkWhole() {
            if (kind != WHOLE) fail(FORM);
            else if (token < least() || token > greatest()) fail(BOUNDS);
            else keep((int) token);
        }

        private int least() {
            int i = sort * Beast.WIDTH + filled;
            int bound = i < 0 || i >= LEAST.length ? 0 : LEAST[i];
            boolean isLatterDay = sort == Beast.ISLE && filled == Beast.TO;
            return isLatterDay ? Math.max(bound, row[Beast.FROM]) : bound;
        }

        private int greatest() {
            int i = sort * Beast.WIDTH + filled;
            return i < 0 || i >= GREATEST.length ? 0 : GREATEST[i];
        }

        private void checkNewName(Beast beast) {
            if (kind != WORD || sortWord() != NONE) fail(FORM);
            else if (beast.isTold(token)) fail(AGAIN);
            else beast.tellName(token, sort == Beast.SCUTE ? beast.count(Beast.SCUTE) : NONE);
        }

        private void checkScute(Beast beast) {
            int scute = beast.scuteNamed(token);
            if (kind != WORD || sortWord() != NONE) fail(FORM);
            else if (scute == NONE) fail(UNKNOWN);
            else if (sort == Beast.PARTING && beast.parts(scute)) fail(AGAIN);
            else keep(scute);
        }

        private void keep(int whole) {
            if (filled < 0 || filled >= row.length) return;
            row[filled] = whole;
            filled++;
        }
    }

    /** All that changes by days and acts; an image is one more of these. */
    private static final class State {
        int day;
        int seed;
        int cell;
        int heading;
        int hunger;
        int coins;
        int dives;
        int bought;
        int claimed;
        int pleased;
        int tied;
        int gone;
        final int[] houseFates = new int[6];
        final int[] familyFates = new int[4];
        final int[] homes = new int[4];
        final int[] barnacles = new int[8];
        final int[] cellsBehind = new int[DAYS_ROOM + 1];

        void clear() {
            day = 0;
            seed = 0;
            cell = 0;
            heading = 0;
            hunger = 0;
            coins = 0;
            dives = 0;
            bought = 0;
            claimed = 0;
            pleased = 0;
            tied = 0;
            gone = 0;
            Arrays.fill(houseFates, 0);
            Arrays.fill(familyFates, 0);
            Arrays.fill(homes, 0);
            Arrays.fill(barnacles, 0);
        }

        void copy(State other) {
            day = other.day;
            seed = other.seed;
            cell = other.cell;
            heading = other.heading;
            hunger = other.hunger;
            coins = other.coins;
            dives = other.dives;
            bought = other.bought;
            claimed = other.claimed;
            pleased = other.pleased;
            tied = other.tied;
            gone = other.gone;
            copyRow(other.houseFates, houseFates);
            copyRow(other.familyFates, familyFates);
            copyRow(other.homes, homes);
            copyRow(other.barnacles, barnacles);
            copyRow(other.cellsBehind, cellsBehind);
        }

        private static void copyRow(int[] from, int[] to) {
            System.arraycopy(from, 0, to, 0, Math.min(from.length, to.length));
        }
    }

    /** A beast and its state now: what stands where, and what a day does. */
    private static final class Life {
        static final int DRAWS = 65_537;
        static final int THERE = 0;
        static final int LOST = 1;
        static final int AWAY = 2;
        /** Behind the headings: that a whim tells it. */
        static final int WHIM = 8;

        final State now = new State();
        Beast beast = new Beast();

        /** Answers the beast that it was until now. */
        Beast begin(Beast told) {
            Beast former = beast;
            beast = told;
            now.clear();
            now.cell = Sea.cellAt(told.value(Beast.BEGINS, 0, 0), told.value(Beast.BEGINS, 0, 1));
            now.heading = told.value(Beast.BEGINS, 0, Beast.HEADS);
            for (int f = 0; f < told.count(Beast.FAMILY); f++) settle(f, told.value(Beast.FAMILY, f, Beast.ON));
            keepCell();
            return former;
        }

        // ---- what stands where

        int houseFate(int h) {
            return h < 0 || h >= now.houseFates.length ? LOST : now.houseFates[h];
        }

        private void setHouseFate(int h, int fate) {
            if (h >= 0 && h < now.houseFates.length) now.houseFates[h] = fate;
        }

        int familyFate(int f) {
            return f < 0 || f >= now.familyFates.length ? LOST : now.familyFates[f];
        }

        private void setFamilyFate(int f, int fate) {
            if (f >= 0 && f < now.familyFates.length) now.familyFates[f] = fate;
        }

        boolean isHouseThere(int h) {
            return h < beast.count(Beast.HOUSE) && houseFate(h) == THERE;
        }

        boolean isFamilyThere(int f) {
            return f < beast.count(Beast.FAMILY) && familyFate(f) == THERE;
        }

        boolean isTied(int h) {
            return (now.tied >> h & 1) != 0;
        }

        void toggleTie(int h) {
            now.tied ^= 1 << h;
        }

        boolean isGone(int s) {
            return (now.gone >> s & 1) != 0;
        }

        int homeOf(int f) {
            return f < 0 || f >= now.homes.length ? NONE : now.homes[f];
        }

        void settle(int f, int scute) {
            if (f >= 0 && f < now.homes.length) now.homes[f] = scute;
        }

        int scuteOfHouse(int h) {
            return beast.value(Beast.HOUSE, h, Beast.ON);
        }

        int barnaclesOf(int s) {
            return s < 0 || s >= now.barnacles.length ? 0 : now.barnacles[s];
        }

        void setBarnacles(int s, int many) {
            if (s >= 0 && s < now.barnacles.length) now.barnacles[s] = many;
        }

        /** What a house that is there weighs; 0 if it isn't. */
        private int houseWeight(int h) {
            return isHouseThere(h) ? beast.value(Beast.HOUSE, h, Beast.WEIGHS) : 0;
        }

        int familyWeight(int f) {
            return isFamilyThere(f) ? beast.value(Beast.FAMILY, f, Beast.WEIGHS) : 0;
        }

        int loadOf(int s) {
            int load = 0;
            for (int h = 0; h < beast.count(Beast.HOUSE); h++) {
                if (scuteOfHouse(h) == s) load += houseWeight(h);
            }
            for (int f = 0; f < beast.count(Beast.FAMILY); f++) {
                if (homeOf(f) == s) load += familyWeight(f);
            }
            return load;
        }

        /** LIST (0) or PITCH (1). */
        int lean(int axis) {
            int lean = 0;
            for (int h = 0; h < beast.count(Beast.HOUSE); h++) {
                lean += houseWeight(h) * beast.offset(scuteOfHouse(h), axis);
            }
            for (int f = 0; f < beast.count(Beast.FAMILY); f++) {
                lean += familyWeight(f) * beast.offset(homeOf(f), axis);
            }
            return lean;
        }

        boolean hasTiedHouse(int s) {
            for (int h = 0; h < beast.count(Beast.HOUSE); h++) {
                if (isHouseThere(h) && isTied(h) && scuteOfHouse(h) == s) return true;
            }
            return false;
        }

        boolean canMove(int f, int scute) {
            if (!isFamilyThere(f) || isGone(scute) || homeOf(f) == scute) return false;
            return loadOf(scute) + familyWeight(f) <= beast.value(Beast.SCUTE, scute, Beast.HOLDS);
        }

        /** NONE if fewer are lost. */
        int lostHouse(int i) {
            int before = 0;
            for (int h = 0; h < beast.count(Beast.HOUSE); h++) {
                if (houseFate(h) != LOST) continue;
                if (before == i) return h;
                before++;
            }
            return NONE;
        }

        int cellBehind(int t) {
            return t < 0 || t >= now.cellsBehind.length ? NONE : now.cellsBehind[t];
        }

        private void keepCell() {
            if (now.day >= 0 && now.day < now.cellsBehind.length) now.cellsBehind[now.day] = now.cell;
        }

        // ---- a day

        void passDay() {
            if (now.day >= DAYS_ROOM) return;
            now.day++;
            part();
            now.hunger++;
            takeBearing();
            int spot = Sea.swimFrom(Sea.spotAt(now.cell, now.heading));
            now.cell = Sea.cellOf(spot);
            now.heading = Sea.headingOf(spot);
            keepCell();
            if (beast.isWeedAt(now.cell)) now.hunger = 0;
            earn();
            itch();
            growBarnacles();
            int every = beast.law(Beast.DIVES);
            if (every > 0 && now.day % every == 0 && now.pleased < beast.law(Beast.CALM)) dive();
            claim();
        }

        private void part() {
            for (int i = 0; i < beast.count(Beast.PARTING); i++) {
                if (beast.value(Beast.PARTING, i, Beast.DAY) != now.day) continue;
                int scute = beast.value(Beast.PARTING, i, Beast.ON);
                now.gone |= 1 << scute;
                empty(scute, beast.value(Beast.PARTING, i, Beast.IS_YOUNG) == 1 ? AWAY : LOST);
            }
        }

        private void empty(int scute, int fate) {
            for (int h = 0; h < beast.count(Beast.HOUSE); h++) {
                if (isHouseThere(h) && scuteOfHouse(h) == scute) setHouseFate(h, fate);
            }
            for (int f = 0; f < beast.count(Beast.FAMILY); f++) {
                if (isFamilyThere(f) && homeOf(f) == scute) setFamilyFate(f, fate);
            }
        }

        private void takeBearing() {
            int bearing = bearingFrom(now.cell, now.heading, now.hunger, lean(0));
            if (bearing == WHIM) {
                now.seed = (75 * now.seed + 74) % DRAWS;
                bearing = Sea.turned(now.heading, now.seed % 3);
            }
            now.heading = bearing;
        }

        /** The heading behind the turn of a day; WHIM if a draw must tell it. */
        int bearingFrom(int cell, int heading, int hunger, int lean) {
            int weed = hunger >= beast.law(Beast.HUNGRY) ? beast.nearestWeed(cell) : NONE;
            if (weed != NONE) return Sea.towards(weed, cell, heading);
            int feels = beast.law(Beast.FEELS);
            if (lean >= feels) return Sea.turned(heading, RIGHT);
            if (lean <= -feels) return Sea.turned(heading, LEFT);
            return now.pleased >= beast.law(Beast.CALM) ? heading : WHIM;
        }

        private void earn() {
            for (int f = 0; f < beast.count(Beast.FAMILY); f++) {
                if (isFamilyThere(f)) now.coins++;
            }
            for (int i = 0; i < beast.count(Beast.ISLE); i++) {
                boolean early = now.day < beast.value(Beast.ISLE, i, Beast.FROM);
                boolean late = now.day > beast.value(Beast.ISLE, i, Beast.TO);
                boolean hasBought = (now.bought >> i & 1) != 0;
                if (early || late || hasBought || beast.cellOfIsle(i) != now.cell) continue;
                now.bought |= 1 << i;
                now.coins += beast.value(Beast.ISLE, i, Beast.BUYS);
            }
        }

        private void itch() {
            for (int i = 0; i < beast.count(Beast.FIELD); i++) {
                boolean isGone = isGone(beast.value(Beast.FIELD, i, Beast.ON));
                if (!isGone) now.pleased -= beast.value(Beast.FIELD, i, Beast.ITCH);
            }
            for (int s = 0; s < beast.count(Beast.SCUTE); s++) {
                if (!isGone(s) && barnaclesOf(s) >= 5) now.pleased--;
            }
            now.pleased = Math.max(now.pleased, -999);
        }

        private void growBarnacles() {
            for (int s = 0; s < beast.count(Beast.SCUTE); s++) {
                if (!isGone(s)) setBarnacles(s, Math.min(barnaclesOf(s) + 1, 9));
            }
        }

        private void dive() {
            now.dives++;
            for (int h = 0; h < beast.count(Beast.HOUSE); h++) {
                if (isHouseThere(h) && !isTied(h)) setHouseFate(h, LOST);
            }
            for (int f = 0; f < beast.count(Beast.FAMILY); f++) {
                if (isFamilyThere(f) && !hasTiedHouse(homeOf(f))) setFamilyFate(f, LOST);
            }
            Arrays.fill(now.barnacles, 0);
        }

        /** Day 0 is no day that passed, so the third day is the first that can bring a claim. */
        private void claim() {
            if (now.day < 3) return;
            for (int i = 0; i < beast.count(Beast.ISLE); i++) {
                int isle = beast.cellOfIsle(i);
                boolean isNear = true;
                for (int t = now.day - 2; t <= now.day; t++) isNear = isNear && Sea.apart(cellBehind(t), isle) <= 2;
                if (isNear) now.claimed |= 1 << i;
            }
        }
    }

    /** The acts that can be taken back; the oldest gives way when there are too many. */
    private static final class Acts {
        static final int MOVED = 0;
        static final int TIED = 1;
        static final int PAID = 2;
        static final int SCRAPED = 3;
        private static final int ROOM = 30;

        private final int[] kinds = new int[ROOM];
        private final int[] things = new int[ROOM];
        private final int[] before = new int[ROOM];
        private int top;
        private int count;

        int count() {
            return count;
        }

        void forget() {
            count = 0;
        }

        void note(int kind, int thing, int old) {
            if (top < 0 || top >= ROOM) return;
            kinds[top] = kind;
            things[top] = thing;
            before[top] = old;
            top = top + 1 < ROOM ? top + 1 : 0;
            count = Math.min(count + 1, ROOM);
        }

        void takeBack(Life life) {
            int last = top > 0 ? top - 1 : ROOM - 1;
            if (count <= 0 || last >= ROOM) return;
            top = last;
            count--;
            int thing = things[last];
            switch (kinds[last]) {
                case MOVED:
                    life.settle(thing, before[last]);
                    break;
                case TIED:
                    life.toggleTie(thing);
                    break;
                case PAID:
                    life.now.coins += thing;
                    life.now.pleased -= thing;
                    break;
                default:
                    life.setBarnacles(thing, before[last]);
                    life.now.pleased--;
                    break;
            }
        }
    }

    /** Goes through all ways in which families can move, the first by scutes of families ahead. */
    private static final class Moves {
        private static final int FAMILIES = 4;
        private static final int SCUTES = 8;
        private static final int ALL_WAYS = 4096;

        private final int[] homes = new int[FAMILIES];
        private final int[] owns = new int[FAMILIES];
        private final int[] weights = new int[FAMILIES];
        private final int[] best = new int[FAMILIES];
        private final int[] loads = new int[SCUTES];
        private final int[] holds = new int[SCUTES];
        private final int[] across = new int[SCUTES];
        private final int[] along = new int[SCUTES];
        private final int[] costs = new int[SCUTES];
        private final int[] nextFree = new int[SCUTES + 1];
        private int families;
        private int leanAcross;
        private int leanAlong;

        int bestHome(int f) {
            return f < 0 || f >= best.length ? NONE : best[f];
        }

        /** How many move so that list and pitch are within a and b; CANNOT_BE if none can. */
        int findTrim(Life life, int a, int b) {
            int fewest = CANNOT_BE;
            int leastOff = 0;
            begin(life);
            boolean more = true;
            for (int way = 0; way < ALL_WAYS && more; way++) {
                int off = Math.abs(leanAcross) + Math.abs(leanAlong);
                if (Math.abs(leanAcross) <= a && Math.abs(leanAlong) <= b && canStand()) {
                    int many = countMoved();
                    if (fewest < 0 || many < fewest || many == fewest && off < leastOff) {
                        fewest = many;
                        leastOff = off;
                        System.arraycopy(homes, 0, best, 0, FAMILIES);
                    }
                }
                more = advance();
            }
            return fewest;
        }

        /** 1 left, 2 none, 4 right, together. */
        int findHelm(Life life) {
            int feels = life.beast.law(Beast.FEELS);
            int helm = 0;
            begin(life);
            boolean more = true;
            for (int way = 0; way < ALL_WAYS && more && helm != 7; way++) {
                int side = leanAcross <= -feels ? 1 : leanAcross < feels ? 2 : 4;
                if ((helm & side) == 0 && canStand()) helm |= side;
                more = advance();
            }
            return helm;
        }

        int minutesAsTheyAre(Life life) {
            begin(life);
            for (int f = 0; f < families && f < FAMILIES; f++) homes[f] = owns[f];
            return minutes();
        }

        int findShelter(Life life) {
            int fewest = CANNOT_BE;
            begin(life);
            boolean more = true;
            for (int way = 0; way < ALL_WAYS && more; way++) {
                int minutes = minutes();
                if (minutes >= 0 && (fewest < 0 || minutes < fewest) && canStand()) fewest = minutes;
                more = advance();
            }
            return fewest;
        }

        /** Families that aren't there have no part in it: only those that are get a row. */
        private void begin(Life life) {
            Beast beast = life.beast;
            int scutes = beast.count(Beast.SCUTE);
            leanAcross = life.lean(0);
            leanAlong = life.lean(1);
            int free = NONE;
            for (int s = SCUTES - 1; s >= 0; s--) {
                loads[s] = life.loadOf(s);
                holds[s] = beast.value(Beast.SCUTE, s, Beast.HOLDS);
                across[s] = beast.offset(s, 0);
                along[s] = beast.offset(s, 1);
                costs[s] = Ropes.minutesFor(life, s);
                nextFree[s + 1] = free;
                if (s < scutes && !life.isGone(s)) free = s;
            }
            nextFree[0] = free;
            families = beast.count(Beast.FAMILY);
            for (int f = 0; f < FAMILIES; f++) {
                boolean there = life.isFamilyThere(f);
                owns[f] = there ? life.homeOf(f) : NONE;
                homes[f] = owns[f];
                weights[f] = life.familyWeight(f);
                if (there) settleAt(f, free);
            }
        }

        private void settleAt(int f, int s) {
            if (f < 0 || f >= FAMILIES || s < 0 || s >= SCUTES) return;
            int old = homes[f];
            if (old < 0 || old >= SCUTES) return;
            loads[old] -= weights[f];
            loads[s] += weights[f];
            leanAcross += weights[f] * (across[s] - across[old]);
            leanAlong += weights[f] * (along[s] - along[old]);
            homes[f] = s;
        }

        private int freeBehind(int s) {
            return s < -1 || s >= SCUTES ? NONE : nextFree[s + 1];
        }

        /** The latest family goes through its scutes the fastest, so that ways come in the order that is due. */
        private boolean advance() {
            for (int f = Math.min(families, FAMILIES) - 1; f >= 0; f--) {
                if (owns[f] == NONE) continue;
                int next = freeBehind(homes[f]);
                if (next != NONE) {
                    settleAt(f, next);
                    return true;
                }
                settleAt(f, freeBehind(-1));
            }
            return false;
        }

        private boolean canStand() {
            for (int f = 0; f < FAMILIES; f++) {
                int s = homes[f];
                if (s == owns[f] || s < 0 || s >= SCUTES) continue;
                if (loads[s] > holds[s]) return false;
            }
            return true;
        }

        private int countMoved() {
            int many = 0;
            for (int f = 0; f < FAMILIES; f++) {
                if (homes[f] != owns[f]) many++;
            }
            return many;
        }

        /** Each scute with a family is paid for once. */
        private int minutes() {
            int minutes = 0;
            int paid = 0;
            for (int f = 0; f < FAMILIES; f++) {
                int s = homes[f];
                if (s < 0 || s >= SCUTES || (paid >> s & 1) != 0) continue;
                if (costs[s] < 0) return CANNOT_BE;
                minutes += costs[s];
                paid |= 1 << s;
            }
            return minutes;
        }
    }

    /** The soonest way to a cell by turns of the helm. */
    private static final class Course {
        private static final int MOST_DAYS = 40;

        private final int[] from = new int[Sea.SPOTS];
        private final int[] turnTo = new int[Sea.SPOTS];
        private final int[] steps = new int[Sea.SPOTS];
        private final int[] queue = new int[Sea.SPOTS];
        private final int[] turns = new int[MOST_DAYS];
        private int queued;

        int turnOf(int i) {
            return i < 0 || i >= turns.length ? NONE : turns[i];
        }

        /** How many days; CANNOT_BE if there are too many. Spots are met in the order of their first turns. */
        int find(Life life, int helm, int goal) {
            Arrays.fill(steps, NONE);
            queued = 0;
            meet(Sea.spotAt(life.now.cell, life.now.heading), NONE, NONE, 0);
            for (int i = 0; i < queued && i < queue.length; i++) {
                int spot = queue[i];
                if (Sea.cellOf(spot) == goal) return retrace(spot);
                if (stepsTo(spot) >= MOST_DAYS) continue;
                for (int turn = LEFT; turn <= RIGHT; turn++) {
                    if ((helm >> turn & 1) == 0) continue;
                    int heading = Sea.turned(Sea.headingOf(spot), turn);
                    meet(Sea.swimFrom(Sea.spotAt(Sea.cellOf(spot), heading)), spot, turn, stepsTo(spot) + 1);
                }
            }
            return CANNOT_BE;
        }

        private int stepsTo(int spot) {
            return spot < 0 || spot >= steps.length ? NONE : steps[spot];
        }

        private void meet(int spot, int ahead, int turn, int many) {
            if (spot < 0 || spot >= Sea.SPOTS || steps[spot] != NONE || queued >= queue.length) return;
            steps[spot] = many;
            from[spot] = ahead;
            turnTo[spot] = turn;
            queue[queued] = spot;
            queued++;
        }

        private int retrace(int goal) {
            int many = stepsTo(goal);
            int spot = goal;
            for (int i = many - 1; i >= 0; i--) {
                if (spot < 0 || spot >= Sea.SPOTS || i >= turns.length) return CANNOT_BE;
                turns[i] = turnTo[spot];
                spot = from[spot];
            }
            return many;
        }
    }

    /** In how many ways it is where behind so many days. */
    private static final class Chart {
        static final int MOST_DAYS = 12;
        /** Ways are told apart by how many days ago they were at weed, 0 .. 11; or that they weren't yet. */
        private static final int NOT_YET = 12;

        private int[] ways = new int[(NOT_YET + 1) * Sea.SPOTS];
        private int[] further = new int[(NOT_YET + 1) * Sea.SPOTS];
        private final int[] cells = new int[Sea.CELLS];

        int waysTo(int cell) {
            return cell < 0 || cell >= cells.length ? 0 : cells[cell];
        }

        int countCells() {
            int many = 0;
            for (int cell = 0; cell < cells.length; cell++) {
                if (cells[cell] != 0) many++;
            }
            return many;
        }

        int edge(int what) {
            return Sea.edge(cells, what);
        }

        void draw(Life life, int n) {
            int lean = life.lean(0);
            Arrays.fill(further, 0);
            put(NOT_YET, Sea.spotAt(life.now.cell, life.now.heading), 1);
            swap();
            for (int t = 0; t < n; t++) {
                Arrays.fill(further, 0);
                for (int ago = 0; ago < t && ago < NOT_YET; ago++) spread(life, ago, ago, lean);
                spread(life, NOT_YET, life.now.hunger + t, lean);
                swap();
            }
            gather();
        }

        private void swap() {
            int[] old = ways;
            ways = further;
            further = old;
        }

        private void put(int ago, int spot, int many) {
            int at = ago * Sea.SPOTS + spot;
            if (at >= 0 && at < further.length) further[at] += many;
        }

        private void spread(Life life, int ago, int hunger, int lean) {
            for (int spot = 0; spot < Sea.SPOTS; spot++) {
                int at = ago * Sea.SPOTS + spot;
                int many = at < 0 || at >= ways.length ? 0 : ways[at];
                if (many == 0) continue;
                int cell = Sea.cellOf(spot);
                int bearing = life.bearingFrom(cell, Sea.headingOf(spot), hunger + 1, lean);
                if (bearing != Life.WHIM) {
                    land(life, ago, Sea.spotAt(cell, bearing), 3 * many);
                    continue;
                }
                for (int turn = LEFT; turn <= RIGHT; turn++) {
                    land(life, ago, Sea.spotAt(cell, Sea.turned(Sea.headingOf(spot), turn)), many);
                }
            }
        }

        private void land(Life life, int ago, int spot, int many) {
            int reached = Sea.swimFrom(spot);
            int later = ago == NOT_YET ? NOT_YET : ago + 1;
            put(life.beast.isWeedAt(Sea.cellOf(reached)) ? 0 : later, reached, many);
        }

        private void gather() {
            Arrays.fill(cells, 0);
            for (int at = 0; at < ways.length; at++) {
                int cell = Sea.cellOf(at % Sea.SPOTS);
                if (cell >= 0 && cell < cells.length) cells[cell] += ways[at];
            }
        }
    }

    /** Where it was seen, and what that lets be. Headings of a cell are bits. */
    private static final class Sightings {
        static final int LAST_DAY = 20;
        private static final int ROOM = 6;
        private static final int ALL_HEADINGS = 255;

        private final int[] days = new int[ROOM];
        private final int[] cells = new int[ROOM];
        private int count;
        /** Of each day the spots from which all that was seen from then on can be swum through. */
        private final int[] open = new int[(LAST_DAY + 1) * Sea.CELLS];
        private int[] reached = new int[Sea.CELLS];
        private int[] further = new int[Sea.CELLS];

        int count() {
            return count;
        }

        boolean isFull() {
            return count >= ROOM;
        }

        void forget() {
            count = 0;
        }

        void add(int day, int cell) {
            if (count < 0 || count >= ROOM) return;
            days[count] = day;
            cells[count] = cell;
            count++;
        }

        int lastDay() {
            int last = 0;
            for (int i = 0; i < count && i < ROOM; i++) last = Math.max(last, days[i]);
            return last;
        }

        private boolean agrees(int day, int cell) {
            for (int i = 0; i < count && i < ROOM; i++) {
                if (days[i] == day && cells[i] != cell) return false;
            }
            return true;
        }

        private int openAt(int day, int cell) {
            return isPlace(day, cell) ? open[day * Sea.CELLS + cell] : 0;
        }

        private static boolean isPlace(int day, int cell) {
            return day >= 0 && day <= LAST_DAY && cell >= 0 && cell < Sea.CELLS;
        }

        private boolean isOpen(int day, int spot) {
            return (openAt(day, Sea.cellOf(spot)) >> Sea.headingOf(spot) & 1) != 0;
        }

        /** Each heading, and those one to the left and one to the right of it. */
        private static int widened(int headings) {
            int left = headings >> 1 | headings << 7;
            int right = headings << 1 | headings >> 7;
            return (headings | left | right) & ALL_HEADINGS;
        }

        /** Opens the days from the last that was seen back to day 0: how many spots are left then. */
        int countFits() {
            int last = lastDay();
            int fits = 0;
            for (int day = last; day >= 0; day--) {
                fits = 0;
                for (int cell = 0; cell < Sea.CELLS; cell++) {
                    int headings = day == last ? ALL_HEADINGS : widened(headingsOn(day, cell));
                    if (!agrees(day, cell)) headings = 0;
                    if (isPlace(day, cell)) open[day * Sea.CELLS + cell] = headings;
                    fits += Integer.bitCount(headings);
                }
            }
            return fits;
        }

        private int headingsOn(int day, int cell) {
            int headings = 0;
            for (int h = 0; h < 8; h++) {
                if (isOpen(day + 1, Sea.swimFrom(Sea.spotAt(cell, h)))) headings |= 1 << h;
            }
            return headings;
        }

        /** Behind countFits() alone, by the days that it opened. */
        int edge(int day, int what) {
            for (int cell = 0; cell < reached.length; cell++) reached[cell] = openAt(0, cell);
            for (int t = 0; t < day && t < LAST_DAY; t++) {
                Arrays.fill(further, 0);
                for (int cell = 0; cell < reached.length; cell++) swimOn(t + 1, cell, widened(reached[cell]));
                int[] old = reached;
                reached = further;
                further = old;
            }
            return Sea.edge(reached, what);
        }

        private void swimOn(int day, int cell, int headings) {
            for (int h = 0; h < 8; h++) {
                if ((headings >> h & 1) == 0) continue;
                int spot = Sea.swimFrom(Sea.spotAt(cell, h));
                int there = Sea.cellOf(spot);
                boolean isKept = isOpen(day, spot) && there >= 0 && there < further.length;
                if (isKept) further[there] |= 1 << Sea.headingOf(spot);
            }
        }
    }

    /** Which houses are tied. */
    private static final class Ropes {
        /** The fewest minutes so that a house there on a scute is tied; CANNOT_BE without one. */
        static int minutesFor(Life life, int scute) {
            Beast beast = life.beast;
            int fewest = CANNOT_BE;
            for (int h = 0; h < beast.count(Beast.HOUSE); h++) {
                if (!life.isHouseThere(h) || life.scuteOfHouse(h) != scute) continue;
                int minutes = life.isTied(h) ? 0 : beast.value(Beast.HOUSE, h, Beast.TIES);
                if (fewest < 0 || minutes < fewest) fewest = minutes;
            }
            return fewest;
        }

        /** As bits; of like worth the least. */
        static int bestHouses(Life life, int minutes) {
            int best = 0;
            int most = NONE;
            for (int houses = 0; houses < 64; houses++) {
                int worth = worthOf(life, houses);
                if (worth > most && canBeTied(life, houses, minutes)) {
                    most = worth;
                    best = houses;
                }
            }
            return best;
        }

        static int worthOf(Life life, int houses) {
            int worth = 0;
            for (int h = 0; h < 6; h++) {
                if ((houses >> h & 1) != 0) worth += life.beast.value(Beast.HOUSE, h, Beast.WORTH);
            }
            return worth;
        }

        /** All houses there that are tied are among them, and none that isn't there is. */
        private static boolean canBeTied(Life life, int houses, int minutes) {
            int needed = 0;
            for (int h = 0; h < 6; h++) {
                boolean isChosen = (houses >> h & 1) != 0;
                boolean isThere = life.isHouseThere(h);
                if (isChosen ? !isThere : isThere && life.isTied(h)) return false;
                if (isChosen && !life.isTied(h)) needed += life.beast.value(Beast.HOUSE, h, Beast.TIES);
            }
            return needed <= minutes;
        }
    }
}
