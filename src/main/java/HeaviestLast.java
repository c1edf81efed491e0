import java.util.Arrays;

/** A frozen pond of three ways, the goers who cross it, and what can be asked about their crossings. */
public final class HeaviestLast {
    public static final int BAD = -1, NOT = -2, FULL = -3, STATE = -5, VOID = -2000000000;

    private static final int MISSING = -11, OTHER_KIND = -12, NO_PLACE = -13, BELOW_ZERO = -14;
    // Long's least value: what calls that answer a long refuse with
    private static final long REFUSED = -9223372036854775808L;

    private static final int WAYS = 3, PLACES = 8, SQUARES = 24, MOST_GOERS = 7;
    private static final int MOST_WEAK = 99, MOST_STRENGTH = 99, LAST_MINUTE = 9999;
    private static final int MOST_IN_ORDER = 10, MOST_UNSURE = 4, MOST_SOONEST = 5;

    private static final int STRENGTH = 0, MENDS = 1, THIN = 2, LESS = 3;
    private static final int WEIGHT = 4, LIES = 5, TAKES = 6, PACE = 7, SUNNY = 8;
    private static final int WEAK = 10, BEARS = 11, NOW = 12;

    private static final int OVER = -1, NEVER = -1;

    private final Pond pond;
    private final Changes changes;
    private final Law law;
    private final Crosser crosser;
    private final Deed deed;
    private final Thought thought;
    private final Search search;
    private final Chance chance;
    private final Shelves shelves;
    private final Acts acts;

    public HeaviestLast() {
        pond = new Pond();
        changes = new Changes();
        law = new Law();
        crosser = new Crosser(pond, law);
        deed = new Deed();
        thought = new Thought(pond, crosser);
        search = new Search(pond, crosser);
        chance = new Chance(pond, crosser);
        shelves = new Shelves();
        acts = new Acts();
    }

    // ---- squares, goers

    public int goer(int weight, int takes) {
        if (!pond.allows(WEIGHT, weight) || !pond.allows(TAKES, takes)) return BAD;
        if (pond.goers >= MOST_GOERS) return FULL;
        return pond.add(weight, takes, Pond.FIRST_PACE);
    }

    public int goers(int shelf, int i, int n) {
        if (!isShelf(shelf) || n < 1 || n > MOST_GOERS) return BAD;
        if (shelves.isEmpty(shelf)) return 0;
        if (!shelves.isBytes(shelf)) return OTHER_KIND;
        int came = 0;
        int at = i;
        // no bound is told for the place: where the row has no such three, below 0 too, it ends
        while (came < n && shelves.hasSpan(shelf, at, 3) && comes(shelf, at)) {
            came++;
            at += 3;
        }
        return came;
    }

    public int mend(int number, int what, int v) {
        if (!pond.has(number, what) || !pond.allows(what, v)) return BAD;
        int was = pond.get(number, what);
        if (was != v) {
            pond.set(number, what, v);
            changes.add(number, what, was, v);
        }
        return was;
    }

    public int of(int number, int what) {
        if (what == NOW) return number == 0 ? deed.ice.minute : BAD;
        if (what == WEAK || what == BEARS) {
            if (!isSquare(number)) return BAD;
            crosser.layStrength(deed.ice);
            return what == WEAK ? deed.ice.weakOn(number) : crosser.bearing(deed.ice, number, 0);
        }
        return pond.has(number, what) ? pond.get(number, what) : BAD;
    }

    public int feed(int letter) {
        if (letter < 0 || letter > 255) return BAD;
        return law.take(letter) ? law.fed : FULL;
    }

    public int law() {
        int fault = law.read();
        return fault < 0 ? 1 : -100 - fault;
    }

    // ---- orders in thought

    public int over(int shelf, int way, int what) {
        if (!isShelf(shelf) || !isWay(way) || what < 0 || what > 2) return BAD;
        int refused = shelves.bytesRefusal(shelf);
        if (refused != 0) return refused;
        runOrder(shelf, way);
        if (what == 0) return thought.over;
        return what == 1 ? thought.firstFall : thought.ice.minute - deed.ice.minute;
    }

    public int bears(int shelf, int way, int square) {
        if (!isShelf(shelf) || !isWay(way) || !isSquare(square)) return BAD;
        int refused = shelves.bytesRefusal(shelf);
        if (refused != 0) return refused;
        runOrder(shelf, way);
        return crosser.bearing(thought.ice, square, 0);
    }

    public int all(int way, int k) {
        if (!isWay(way) || k < -1) return BAD;
        if (k >= pond.goers) return NOT;
        int most = search.mostOver(deed.ice, way);
        return k < 0 ? most : search.found(k);
    }

    public int rule(int way, int rule) {
        if (!isWay(way) || rule < 0 || rule > Thought.RULES) return BAD;
        if (rule < Thought.RULES) return overByRule(way, rule);
        int best = 0;
        int most = overByRule(way, 0);
        for (int other = 1; other < Thought.RULES; other++) {
            int over = overByRule(way, other);
            if (over > most) {
                most = over;
                best = other;
            }
        }
        return best;
    }

    public int waits(int shelf, int way, int k) {
        if (!isShelf(shelf) || !isWay(way) || k < -2) return BAD;
        int refused = shelves.bytesRefusal(shelf);
        if (refused != 0) return refused;
        thought.readOrder(shelves, shelf, MOST_IN_ORDER);
        if (k >= thought.size) return NOT;
        crosser.follow(thought.ice, deed.ice);
        thought.walkWaiting(way);
        if (k == -2) return thought.ice.minute;
        return k == -1 ? thought.allWaits() : thought.waitOf(k);
    }

    public int soonest(int way, int k) {
        if (!isWay(way) || k < -1) return BAD;
        if (pond.goers > MOST_SOONEST) return STATE;
        if (k >= pond.goers) return NOT;
        int minute = search.soonestMinute(deed.ice, way);
        return minute == NOT || k < 0 ? minute : search.found(k);
    }

    public int strength(int shelf, int way) {
        if (!isShelf(shelf) || !isWay(way)) return BAD;
        int refused = shelves.bytesRefusal(shelf);
        if (refused != 0) return refused;
        thought.readOrder(shelves, shelf, MOST_IN_ORDER);
        for (int strength = 0; strength <= MOST_STRENGTH; strength++) {
            crosser.follow(thought.ice, deed.ice);
            thought.ice.clearWay(way);
            thought.ice.levelWay(way, strength);
            thought.walk(way);
            if (thought.over == thought.size) return strength;
        }
        return NOT;
    }

    // ---- loads, ways, unsure ice

    public int load(int gw, int l, int n) {
        if (gw < 0 || !isGoer(gw / 10) || !isWay(gw % 10)) return BAD;
        if (l < 1 || l > 200 || n < 0 || n > Thought.MOST_PARTS) return BAD;
        int goer = gw / 10;
        int way = gw % 10;
        if (n > 0) return carried(goer, way, l, n);
        for (int parts = 1; parts <= Thought.MOST_PARTS; parts++) {
            if (carried(goer, way, l, parts) == parts) return parts;
        }
        return NOT;
    }

    public int several(int goer) {
        if (goer < -1 || goer >= pond.goers) return BAD;
        int most = search.mostParted(deed.ice);
        return goer < 0 ? most : search.found(goer);
    }

    public long unsure(int shelf, int way, int part) {
        if (!isShelf(shelf) || !isWay(way) || part < 0 || part > 1) return REFUSED;
        if (!shelves.isBytes(shelf)) return REFUSED;
        thought.readOrder(shelves, shelf, MOST_UNSURE);
        chance.look(deed.ice, way, thought);
        return chance.part(chance.likely(), part);
    }

    public long bore(int shelf, int way, int part) {
        if (!isShelf(shelf) || !isWay(way) || part < 0 || part > 2) return REFUSED;
        if (!shelves.isBytes(shelf)) return REFUSED;
        thought.readOrder(shelves, shelf, MOST_UNSURE);
        chance.look(deed.ice, way, thought);
        int place = chance.bestBored();
        return part == 2 ? way * PLACES + place : chance.part(chance.likelyBored(place), part);
    }

    public int safe(int goer) {
        if (!isGoer(goer)) return BAD;
        thought.alone(goer);
        int best = 0;
        long likeliest = -1;
        for (int way = 0; way < WAYS; way++) {
            chance.look(deed.ice, way, thought);
            long likely = chance.likely();
            if (likely > likeliest) {
                likeliest = likely;
                best = way;
            }
        }
        return best;
    }

    // ---- cracks, told crossings, draws

    public int who(int shelf, int way, int what) {
        if (!isShelf(shelf) || !isWay(way) || what < 0 || what > 2) return BAD;
        int refused = shelves.bytesRefusal(shelf);
        if (refused != 0) return refused;
        int sets = 0;
        int least = NOT;
        int inAll = 0;
        int end = 1 << pond.goers;
        for (int set = 0; set < end; set++) {
            if (!mayHaveGone(shelf, way, set)) continue;
            least = sets == 0 ? set : least;
            inAll = sets == 0 ? set : inAll & set;
            sets++;
        }
        if (what == 0) return sets;
        return what == 1 ? least : inAll;
    }

    public int judge(int shelf) {
        if (!isShelf(shelf)) return BAD;
        int refused = shelves.bytesRefusal(shelf);
        if (refused != 0) return refused;
        crosser.follow(thought.ice, deed.ice);
        int size = shelves.sizeOf(shelf);
        for (int at = 0; at < size; at += 3) {
            if (at + 3 > size || !isSo(shelf, at)) return at / 3;
        }
        return NOT;
    }

    public int drawn(int seed, int nw, int what) {
        if (nw < 10 || nw / 10 > 20 || !isWay(nw % 10) || what < 0 || what > 1) return BAD;
        int nights = nw / 10;
        int way = nw % 10;
        int z = seed;
        int over = 0;
        int whole = 0;
        thought.byNumbers();
        for (int night = 0; night < nights; night++) {
            crosser.follow(thought.ice, deed.ice);
            z = crosser.draw(thought.ice, way, z);
            thought.walk(way);
            over += thought.over;
            whole += thought.over == thought.size ? 1 : 0;
        }
        return what == 0 ? over : whole;
    }

    // ---- in deed

    public int go(int goer, int way) {
        if (!isGoer(goer) || !isWay(way)) return BAD;
        crosser.layStrength(deed.ice);
        int fell = crosser.cross(deed.ice, way, goer, 0, false);
        deed.lead(fell, pond.get(goer, WEIGHT));
        return fell == OVER ? 1 : 0;
    }

    public int stay(int n) {
        if (n < 1 || n > 999) return BAD;
        if (deed.ice.minute + n > LAST_MINUTE) return STATE;
        crosser.pass(deed.ice, n);
        return deed.ice.minute;
    }

    public int led(int what) {
        return deed.told(what);
    }

    public int image() {
        deed.keepImage();
        return deed.ice.minute;
    }

    public int back() {
        return deed.layImage() ? deed.ice.minute : STATE;
    }

    public int undo() {
        return changes.undoIn(pond) ? changes.done : STATE;
    }

    public int redo() {
        return changes.redoIn(pond) ? changes.kept - changes.done : STATE;
    }

    // ---- acts, shelves

    public int body(int kind) {
        if (!isKind(kind)) return BAD;
        return acts.add(kind);
    }

    public int act(int body, int act, int x) {
        return acts.start(body, act, x);
    }

    public int trace(int i) {
        return acts.traced(i);
    }

    public int keep(int shelf, int body) {
        if (!isShelf(shelf) || body < -1 || body >= acts.bodies) return BAD;
        shelves.holdBody(shelf, body);
        return 1;
    }

    public int row(int shelf, int sort, int n) {
        if (!isShelf(shelf) || sort < 0 || sort > Shelves.BOOLEANS || n > Shelves.LONGEST) return BAD;
        if (n < 0) return BELOW_ZERO;
        shelves.holdRow(shelf, sort, n);
        return 1;
    }

    public int put(int shelf, int i, long v) {
        if (!isShelf(shelf)) return BAD;
        int refused = shelves.placeRefusal(shelf, i);
        if (refused != 0) return refused;
        shelves.set(shelf, i, v);
        return 1;
    }

    public long element(int shelf, int i) {
        if (!isShelf(shelf) || shelves.placeRefusal(shelf, i) != 0) return REFUSED;
        return shelves.get(shelf, i);
    }

    public int shift(int shelf, int i, int other, int j, int n) {
        if (!isShelf(shelf) || !isShelf(other)) return BAD;
        if (shelves.isEmpty(shelf) || shelves.isEmpty(other)) return MISSING;
        if (!shelves.areAlike(shelf, other)) return OTHER_KIND;
        if (!shelves.hasSpan(shelf, i, n) || !shelves.hasSpan(other, j, n)) return NO_PLACE;
        shelves.move(shelf, i, other, j, n);
        return n;
    }

    public int taken(int shelf, int k) {
        if (!isShelf(shelf) || !isKind(k)) return BAD;
        if (shelves.isEmpty(shelf)) return MISSING;
        int kind = acts.kindOf(shelves.bodyOn(shelf));
        return acts.isUnder(kind, k) ? kind : OTHER_KIND;
    }

    public int count(int what) {
        switch (what) {
            case 0: return pond.goers;
            case 1: return deed.ice.weakSquares();
            case 2: return law.fed;
            case 3: return changes.done;
            case 4: return acts.bodies;
            case 5: return acts.ran;
            default: return BAD;
        }
    }

    // ---- what the calls share

    private static boolean isShelf(int shelf) {
        return shelf >= 0 && shelf < Shelves.SHELVES;
    }

    private static boolean isWay(int way) {
        return way >= 0 && way < WAYS;
    }

    private static boolean isSquare(int square) {
        return square >= 0 && square < SQUARES;
    }

    private static boolean isKind(int kind) {
        return kind >= 0 && kind < Acts.KINDS;
    }

    private boolean isGoer(int goer) {
        return goer >= 0 && goer < pond.goers;
    }

    /** Whether the three at a place of a row of bytes is a goer who still finds room. */
    private boolean comes(int shelf, int at) {
        int weight = shelves.byteAt(shelf, at);
        int takes = shelves.byteAt(shelf, at + 1);
        int pace = shelves.byteAt(shelf, at + 2);
        if (!pond.allows(WEIGHT, weight) || !pond.allows(TAKES, takes) || !pond.allows(PACE, pace)) return false;
        return pond.add(weight, takes, pace) >= 0;
    }

    private void runOrder(int shelf, int way) {
        thought.readOrder(shelves, shelf, MOST_IN_ORDER);
        crosser.follow(thought.ice, deed.ice);
        thought.walk(way);
    }

    private int overByRule(int way, int rule) {
        thought.byRule(rule);
        crosser.follow(thought.ice, deed.ice);
        thought.walk(way);
        return thought.over;
    }

    private int carried(int goer, int way, int l, int parts) {
        if (parts < 1) return 0;
        crosser.follow(thought.ice, deed.ice);
        return thought.carry(goer, way, (l + parts - 1) / parts, parts);
    }

    /** Whether a set of goers, all over, leaves the cracks that a row tells. */
    private boolean mayHaveGone(int shelf, int way, int set) {
        thought.bySet(set);
        crosser.follow(thought.ice, deed.ice);
        thought.ice.clearWay(way);
        thought.walk(way);
        if (thought.over != thought.size) return false;
        int told = Math.min(PLACES, shelves.sizeOf(shelf));
        for (int place = 0; place < told; place++) {
            if (thought.ice.weakOn(way * PLACES + place) != shelves.byteAt(shelf, place)) return false;
        }
        return true;
    }

    /** Whether a told crossing goes so in thought, behind those ahead of it. */
    private boolean isSo(int shelf, int at) {
        int goer = shelves.byteAt(shelf, at);
        int way = shelves.byteAt(shelf, at + 1);
        int told = shelves.byteAt(shelf, at + 2);
        if (!isGoer(goer) || !isWay(way) || told < 0 || told > 1) return false;
        int fell = crosser.cross(thought.ice, way, goer, 0, false);
        return (fell == OVER) == (told == 1);
    }

    /** The numbers that can be told of squares, of goers and of the sun. */
    private static final class Pond {
        static final int FIRST_PACE = 2;
        private static final int[] LEAST = {0, 0, 0, 0, 1, 0, 0, 1, 0};
        private static final int[] MOST = {99, 9, 12, 99, 60, 1, 60, 9, 999};
        private static final int[] FIRST = {30, 1, 0, 10, 1, 0, 5, 2, 999};

        final int[][] numbers;
        int goers;

        Pond() {
            numbers = new int[SUNNY + 1][SQUARES];
            for (int what = 0; what <= SUNNY; what++) {
                Arrays.fill(numbers[what], FIRST[what]);
            }
            goers = 0;
        }

        boolean has(int number, int what) {
            if (what < 0 || what > SUNNY || number < 0) return false;
            if (what <= LESS) return number < SQUARES;
            return what <= PACE ? number < goers : number == 0;
        }

        boolean allows(int what, int v) {
            return what >= 0 && what <= SUNNY && v >= LEAST[what] && v <= MOST[what];
        }

        int get(int number, int what) {
            boolean there = what >= 0 && what <= SUNNY && number >= 0 && number < SQUARES;
            return there ? numbers[what][number] : 0;
        }

        void set(int number, int what, int v) {
            if (has(number, what)) numbers[what][number] = v;
        }

        int add(int weight, int takes, int pace) {
            if (goers >= MOST_GOERS) return FULL;
            int goer = goers;
            goers++;
            set(goer, WEIGHT, weight);
            set(goer, TAKES, takes);
            set(goer, PACE, pace);
            return goer;
        }
    }

    /** Changes of numbers: those below done can be undone, those from it on done again. */
    private static final class Changes {
        private static final int MOST_KEPT = 40;

        private final int[] number;
        private final int[] what;
        private final int[] was;
        private final int[] became;
        int done;
        int kept;

        Changes() {
            number = new int[MOST_KEPT];
            what = new int[MOST_KEPT];
            was = new int[MOST_KEPT];
            became = new int[MOST_KEPT];
            done = 0;
            kept = 0;
        }

        void add(int ofNumber, int ofWhat, int from, int to) {
            if (done >= MOST_KEPT) dropOldest();
            number[done] = ofNumber;
            what[done] = ofWhat;
            was[done] = from;
            became[done] = to;
            done++;
            kept = done;
        }

        private void dropOldest() {
            int rest = MOST_KEPT - 1;
            System.arraycopy(number, 1, number, 0, rest);
            System.arraycopy(what, 1, what, 0, rest);
            System.arraycopy(was, 1, was, 0, rest);
            System.arraycopy(became, 1, became, 0, rest);
            done = rest;
        }

        boolean undoIn(Pond pond) {
            if (done < 1 || done > MOST_KEPT) return false;
            done--;
            pond.set(number[done], what[done], was[done]);
            return true;
        }

        boolean redoIn(Pond pond) {
            if (done < 0 || done >= kept || done >= MOST_KEPT) return false;
            pond.set(number[done], what[done], became[done]);
            done++;
            return true;
        }
    }

    /** The ice of one moment, in deed or in thought. */
    private static final class Ice {
        final int[] strength;
        final int[] weak;
        int minute;

        Ice() {
            strength = new int[SQUARES];
            weak = new int[SQUARES];
            minute = 0;
        }

        void clearWay(int way) {
            if (!isWay(way)) return;
            for (int place = 0; place < PLACES; place++) {
                weak[way * PLACES + place] = 0;
            }
        }

        void levelWay(int way, int v) {
            if (!isWay(way)) return;
            for (int place = 0; place < PLACES; place++) {
                strength[way * PLACES + place] = v;
            }
        }

        int weakOn(int square) {
            return isSquare(square) ? weak[square] : 0;
        }

        int weakSquares() {
            int many = 0;
            for (int square = 0; square < SQUARES; square++) {
                if (weak[square] > 0) many++;
            }
            return many;
        }
    }

    /** The tape, and the law that was read from it, as codes that work on a stack. */
    private static final class Law {
        private static final int TAPE = 120, MOST_DIGITS = 4, MOST_OPEN = 6, LEVELS = 5, COMPARING = 2;
        private static final int NAME = 10000, NAMES = 6, SIGN = 11000, END = 12000, TEST = 13000;
        private static final int NEGATE = '~', INVERT = '!';

        private final int[] tape;
        private final int[] draft;
        private final int[] code;
        private final int[] stack;
        private final int[] names;
        int fed;
        private int at;
        private int fault;
        private int drafted;
        private int length;

        Law() {
            tape = new int[TAPE];
            draft = new int[TAPE + 1];
            code = new int[TAPE + 1];
            stack = new int[TAPE + 1];
            names = new int[NAMES];
            fed = 0;
            at = 0;
            fault = -1;
            drafted = 0;
            length = 0;
        }

        boolean take(int letter) {
            if (fed < 0 || fed >= TAPE) return false;
            tape[fed] = letter;
            fed++;
            return true;
        }

        /** Makes the tape the law, if it is a text, and empties it: the fault's place, or -1. */
        int read() {
            at = 0;
            fault = -1;
            drafted = 0;
            boolean more = true;
            for (int lines = 0; lines <= TAPE && more; lines++) {
                more = readLine();
            }
            if (at < fed) spoil();
            if (fault < 0) {
                System.arraycopy(draft, 0, code, 0, code.length);
                length = drafted;
            }
            fed = 0;
            return fault;
        }

        /** Reads a line; whether one more is announced. */
        private boolean readLine() {
            readLevel(0, 0);
            boolean tested = next() == '?';
            int test = drafted;
            if (tested) {
                at++;
                emit(TEST);
                readLevel(0, 0);
            }
            emit(END);
            if (tested && test < draft.length) draft[test] = TEST + drafted;
            if (next() != ';') return false;
            at++;
            return true;
        }

        /** Reads what stands at a level of signs (0 the loosest), within so many open ones. */
        private void readLevel(int level, int open) {
            if (level >= LEVELS) {
                readOperand(open);
                return;
            }
            readLevel(level + 1, open);
            boolean more = levelOf(next()) == level;
            for (int n = 0; n < TAPE && more; n++) {
                int sign = next();
                at++;
                readLevel(level + 1, open);
                emit(SIGN + sign);
                more = level != COMPARING && levelOf(next()) == level;
            }
        }

        private void readOperand(int open) {
            int c = next();
            if (isDigit(c)) {
                readNumber();
            } else if (nameOf(c) >= 0) {
                at++;
                emit(NAME + nameOf(c));
            } else if (open >= MOST_OPEN) {
                spoil();
            } else if (c == '(') {
                at++;
                readLevel(0, open + 1);
                if (next() == ')') at++;
                else spoil();
            } else if (c == '!' || c == '-') {
                at++;
                readOperand(open + 1);
                emit(SIGN + (c == '-' ? NEGATE : INVERT));
            } else {
                spoil();
            }
        }

        private void readNumber() {
            int v = 0;
            for (int n = 0; n < MOST_DIGITS && isDigit(next()); n++) {
                v = v * 10 + next() - '0';
                at++;
            }
            emit(v);
        }

        /** The byte that comes; -1 at the end, and behind a fault, so that all reading ends there. */
        private int next() {
            return fault < 0 && at >= 0 && at < fed && at < TAPE ? tape[at] : -1;
        }

        private void spoil() {
            if (fault < 0) fault = at;
        }

        private void emit(int c) {
            if (drafted < 0 || drafted >= draft.length) return;
            draft[drafted] = c;
            drafted++;
        }

        private static boolean isDigit(int c) {
            return c >= '0' && c <= '9';
        }

        private static int nameOf(int c) {
            switch (c) {
                case 'w': return 0;
                case 't': return 1;
                case 'p': return 2;
                case 'b': return 3;
                case 's': return 4;
                case 'm': return 5;
                default: return -1;
            }
        }

        private static int levelOf(int c) {
            switch (c) {
                case '|': return 0;
                case '&': return 1;
                case '<': case '=': case '>': return COMPARING;
                case '+': case '-': return 3;
                case '*': case '/': case '%': return 4;
                default: return -1;
            }
        }

        boolean isTold() {
            return length > 0;
        }

        void name(int w, int t, int p, int b, int s, int m) {
            names[0] = w;
            names[1] = t;
            names[2] = p;
            names[3] = b;
            names[4] = s;
            names[5] = m;
        }

        /** What the law gives for the names as they are. */
        int work() {
            int step = 0;
            int top = 0;
            for (int n = 0; n < length && step < length && step < code.length; n++) {
                int c = code[step];
                step++;
                if (c < SIGN) {
                    if (top >= stack.length) return 0;
                    stack[top] = c < NAME ? c : named(c - NAME);
                    top++;
                } else if (top < 1) {
                    return 0;
                } else if (c == END) {
                    return stack[top - 1];
                } else if (c >= TEST) {
                    top--;
                    if (stack[top] == 0) step = c - TEST;
                } else if (c == SIGN + NEGATE) {
                    stack[top - 1] = -stack[top - 1];
                } else if (c == SIGN + INVERT) {
                    stack[top - 1] = stack[top - 1] == 0 ? 1 : 0;
                } else if (top < 2) {
                    return 0;
                } else {
                    top--;
                    stack[top - 1] = joined(c - SIGN, stack[top - 1], stack[top]);
                }
            }
            return 0;
        }

        private int named(int i) {
            return i >= 0 && i < NAMES ? names[i] : 0;
        }

        private static int joined(int sign, int a, int b) {
            switch (sign) {
                case '|': return a != 0 || b != 0 ? 1 : 0;
                case '&': return a != 0 && b != 0 ? 1 : 0;
                case '<': return a < b ? 1 : 0;
                case '=': return a == b ? 1 : 0;
                case '>': return a > b ? 1 : 0;
                case '+': return a + b;
                case '-': return a - b;
                case '*': return a * b;
                case '/': return b == 0 ? 0 : a / b;
                case '%': return b == 0 ? 0 : a % b;
                default: return 0;
            }
        }
    }

    /** How a goer crosses, what the ice bears, and how it mends. */
    private static final class Crosser {
        private static final int LONGEST_WAIT = 60;

        private final Pond pond;
        private final Law law;
        private int weighs;
        private int takes;
        private int pace;
        private boolean lies;

        Crosser(Pond ofPond, Law ofLaw) {
            pond = ofPond;
            law = ofLaw;
            weighs = 0;
            takes = 0;
            pace = 0;
            lies = false;
        }

        void layStrength(Ice ice) {
            System.arraycopy(pond.numbers[STRENGTH], 0, ice.strength, 0, SQUARES);
        }

        void follow(Ice ice, Ice other) {
            System.arraycopy(other.weak, 0, ice.weak, 0, SQUARES);
            ice.minute = other.minute;
            layStrength(ice);
        }

        void thin(Ice ice, int square) {
            if (isSquare(square)) ice.strength[square] -= pond.get(square, LESS);
        }

        /** Draws which squares of a way are thin: the z behind the last draw. */
        int draw(Ice ice, int way, int from) {
            int z = from;
            for (int place = 0; place < PLACES; place++) {
                int square = way * PLACES + place;
                z = z * 1103515245 + 12345;
                if ((z >>> 8) % 12 < pond.get(square, THIN)) thin(ice, square);
            }
            return z;
        }

        /** What a square bears, if so many minutes pass first. */
        int bearing(Ice ice, int square, int wait) {
            if (!isSquare(square)) return 0;
            int weak = Math.max(0, ice.weak[square] - wait * pond.get(square, MENDS));
            int sun = Math.max(0, ice.minute + wait - pond.get(0, SUNNY));
            return Math.max(0, ice.strength[square] - weak - sun);
        }

        /** From now on it is a goer with a part who steps. */
        void ready(int goer, int part) {
            lies = pond.get(goer, LIES) != 0;
            int whole = pond.get(goer, WEIGHT) + part;
            weighs = lies ? (whole + 1) / 2 : whole;
            takes = pond.get(goer, TAKES) + part / 4;
            pace = pond.get(goer, PACE);
        }

        /** How much weaker a square becomes by who steps. */
        private int weaker(Ice ice, int square, int bears) {
            int by = lies ? takes / 2 : takes;
            if (law.isTold()) {
                law.name(weighs, takes, pace, bears, square % PLACES, ice.minute);
                by = law.work();
            }
            return Math.max(0, Math.min(MOST_WEAK, by));
        }

        /** Who is ready steps on a square: whether it holds. */
        boolean steps(Ice ice, int square) {
            if (!isSquare(square)) return false;
            int bears = bearing(ice, square, 0);
            boolean holds = bears >= weighs;
            int by = holds ? weaker(ice, square, bears) : MOST_WEAK;
            ice.weak[square] = Math.min(MOST_WEAK, ice.weak[square] + by);
            return holds;
        }

        /** The minutes pass that who is ready takes. */
        void passBehind(Ice ice) {
            pass(ice, lies ? pace * 2 : pace);
        }

        void pass(Ice ice, int minutes) {
            for (int square = 0; square < SQUARES; square++) {
                int less = minutes * pond.get(square, MENDS);
                ice.weak[square] = Math.max(0, ice.weak[square] - less);
            }
            ice.minute += minutes;
        }

        /** A crossing with a part, there or back: the square where the goer falls in, or OVER. */
        int cross(Ice ice, int way, int goer, int part, boolean back) {
            int fell = OVER;
            ready(goer, part);
            for (int i = 0; i < PLACES && fell == OVER; i++) {
                int square = way * PLACES + (back ? PLACES - 1 - i : i);
                if (!steps(ice, square)) fell = square;
            }
            passBehind(ice);
            return fell;
        }

        /** How long a goer must wait to get over; NEVER, if no wait that may be helps. */
        int firstWait(Ice ice, int way, int goer) {
            ready(goer, 0);
            for (int wait = 0; wait <= LONGEST_WAIT; wait++) {
                if (holdsBehind(ice, way, wait)) return wait;
            }
            return NEVER;
        }

        // each square is stepped on once in a crossing, so what it bears ahead of it decides
        private boolean holdsBehind(Ice ice, int way, int wait) {
            for (int place = 0; place < PLACES; place++) {
                if (bearing(ice, way * PLACES + place, wait) < weighs) return false;
            }
            return true;
        }
    }

    /** An order of goers and how it goes, in thought. */
    private static final class Thought {
        static final int RULES = 4, MOST_PARTS = 9;

        private final Pond pond;
        private final Crosser crosser;
        final Ice ice;
        private final int[] order;
        private final int[] waited;
        int size;
        int over;
        int firstFall;

        Thought(Pond ofPond, Crosser ofCrosser) {
            pond = ofPond;
            crosser = ofCrosser;
            ice = new Ice();
            order = new int[MOST_IN_ORDER];
            waited = new int[MOST_IN_ORDER];
            size = 0;
            over = 0;
            firstFall = NOT;
        }

        private void add(int goer) {
            if (size < 0 || size >= MOST_IN_ORDER) return;
            order[size] = goer;
            size++;
        }

        int goerAt(int i) {
            return i >= 0 && i < size && i < MOST_IN_ORDER ? order[i] : 0;
        }

        void readOrder(Shelves shelves, int shelf, int most) {
            size = 0;
            int length = Math.min(most, shelves.sizeOf(shelf));
            for (int i = 0; i < length; i++) {
                int goer = shelves.byteAt(shelf, i);
                if (goer < 0 || goer >= pond.goers) return;
                add(goer);
            }
        }

        void alone(int goer) {
            size = 0;
            add(goer);
        }

        void bySet(int set) {
            size = 0;
            for (int goer = 0; goer < pond.goers; goer++) {
                if ((set >> goer & 1) == 1) add(goer);
            }
        }

        void byNumbers() {
            byRule(RULES - 1);
        }

        /** Goers by a rule; those who are alike in it keep to their numbers. */
        void byRule(int rule) {
            size = 0;
            for (int goer = 0; goer < pond.goers; goer++) {
                add(goer);
                for (int i = size - 1; i > 0 && rank(goerAt(i - 1), rule) > rank(goer, rule); i--) {
                    order[i] = order[i - 1];
                    order[i - 1] = goer;
                }
            }
        }

        /** What a rule goes by, the least first. */
        private int rank(int goer, int rule) {
            int weight = pond.get(goer, WEIGHT);
            switch (rule) {
                case 0: return weight;
                case 1: return -weight;
                case 2: return pond.get(goer, TAKES) - weight;
                default: return 0;
            }
        }

        void walk(int way) {
            over = 0;
            firstFall = NOT;
            for (int i = 0; i < size; i++) {
                int fell = crosser.cross(ice, way, goerAt(i), 0, false);
                if (fell == OVER) over++;
                else if (firstFall == NOT) firstFall = i;
            }
        }

        void walkWaiting(int way) {
            for (int i = 0; i < size && i < MOST_IN_ORDER; i++) {
                int wait = crosser.firstWait(ice, way, goerAt(i));
                waited[i] = wait == NEVER ? 0 : wait;
                crosser.pass(ice, waited[i]);
                crosser.cross(ice, way, goerAt(i), 0, false);
            }
        }

        int waitOf(int i) {
            return i >= 0 && i < size && i < MOST_IN_ORDER ? waited[i] : NOT;
        }

        int allWaits() {
            int sum = 0;
            for (int i = 0; i < size; i++) {
                sum += waitOf(i);
            }
            return sum;
        }

        /** Carries parts over one by one, back for the next: how many are over when one falls or all are. */
        int carry(int goer, int way, int part, int parts) {
            int carried = 0;
            boolean holds = true;
            for (int trip = 0; trip < parts && holds; trip++) {
                if (trip > 0) holds = crosser.cross(ice, way, goer, 0, true) == OVER;
                if (holds) holds = crosser.cross(ice, way, goer, part, false) == OVER;
                if (holds) carried++;
            }
            return carried;
        }
    }

    /** The searches through all orders and all partings of all goers. */
    private static final class Search {
        // later than any crossing can end
        private static final int NO_MINUTE = 1000000000;

        private final Pond pond;
        private final Crosser crosser;
        private final Ice ice;
        private final int[][] weakAt;
        private final int[] tried;
        private final int[] kept;
        private int best;

        Search(Pond ofPond, Crosser ofCrosser) {
            pond = ofPond;
            crosser = ofCrosser;
            ice = new Ice();
            weakAt = new int[MOST_GOERS][SQUARES];
            tried = new int[MOST_GOERS];
            kept = new int[MOST_GOERS];
            best = NOT;
        }

        /** The k-th of what the latest search found. */
        int found(int k) {
            return k >= 0 && k < MOST_GOERS ? kept[k] : NOT;
        }

        int mostOver(Ice deed, int way) {
            begin(deed, -1);
            tryOrders(way, 0, 0, 0);
            return best;
        }

        int soonestMinute(Ice deed, int way) {
            begin(deed, NO_MINUTE);
            tryWaiting(way, 0, 0);
            return best == NO_MINUTE ? NOT : best;
        }

        int mostParted(Ice deed) {
            begin(deed, -1);
            tryWays(0, 0);
            return best;
        }

        private void begin(Ice deed, int worst) {
            crosser.follow(ice, deed);
            best = worst;
        }

        private void keepAs(int v) {
            best = v;
            System.arraycopy(tried, 0, kept, 0, MOST_GOERS);
        }

        private void save(int depth) {
            System.arraycopy(ice.weak, 0, weakAt[depth], 0, SQUARES);
        }

        private void restore(int depth, int minute) {
            System.arraycopy(weakAt[depth], 0, ice.weak, 0, SQUARES);
            ice.minute = minute;
        }

        private void tryOrders(int way, int depth, int used, int over) {
            // what cannot become better than the best is left out: of like ones the first counts
            if (over + pond.goers - depth <= best) return;
            if (depth >= pond.goers || depth >= MOST_GOERS) {
                keepAs(over);
                return;
            }
            int minute = ice.minute;
            save(depth);
            for (int goer = 0; goer < pond.goers; goer++) {
                if ((used >> goer & 1) == 1) continue;
                tried[depth] = goer;
                int gets = crosser.cross(ice, way, goer, 0, false) == OVER ? 1 : 0;
                tryOrders(way, depth + 1, used | 1 << goer, over + gets);
                restore(depth, minute);
            }
        }

        private void tryWaiting(int way, int depth, int used) {
            if (ice.minute >= best) return;
            if (depth >= pond.goers || depth >= MOST_GOERS) {
                keepAs(ice.minute);
                return;
            }
            int minute = ice.minute;
            save(depth);
            for (int goer = 0; goer < pond.goers; goer++) {
                if ((used >> goer & 1) == 1) continue;
                int wait = crosser.firstWait(ice, way, goer);
                if (wait == NEVER) continue;
                tried[depth] = goer;
                crosser.pass(ice, wait);
                crosser.cross(ice, way, goer, 0, false);
                tryWaiting(way, depth + 1, used | 1 << goer);
                restore(depth, minute);
            }
        }

        private void tryWays(int goer, int over) {
            if (over + pond.goers - goer <= best) return;
            if (goer >= pond.goers || goer >= MOST_GOERS) {
                keepAs(over);
                return;
            }
            int minute = ice.minute;
            save(goer);
            for (int way = 0; way < WAYS; way++) {
                tried[goer] = way;
                int gets = crosser.cross(ice, way, goer, 0, false) == OVER ? 1 : 0;
                tryWays(goer + 1, over + gets);
                restore(goer, minute);
            }
        }
    }

    /** How likely all of an order get over a way whose squares may be thin. */
    private static final class Chance {
        private static final int TWELVE = 12;
        // 12 to the 8th: every likelihood here is a whole number of so many
        private static final long BELOW = 429981696L;

        private final Pond pond;
        private final Crosser crosser;
        private final Ice ice;
        private final int[] holding;
        private final int[] holdingBored;

        Chance(Pond ofPond, Crosser ofCrosser) {
            pond = ofPond;
            crosser = ofCrosser;
            ice = new Ice();
            holding = new int[PLACES];
            holdingBored = new int[PLACES];
        }

        // all get over when each square by itself holds them all, and the squares are
        // thin for themselves: so the squares' twelfths are multiplied
        void look(Ice deed, int way, Thought order) {
            for (int place = 0; place < PLACES; place++) {
                int square = way * PLACES + place;
                int thin = pond.get(square, THIN);
                int sure = holdsAll(deed, square, order, false) ? 1 : 0;
                int thinned = holdsAll(deed, square, order, true) ? 1 : 0;
                holding[place] = sure * (TWELVE - thin) + thinned * thin;
                holdingBored[place] = sure * TWELVE;
            }
        }

        private boolean holdsAll(Ice deed, int square, Thought order, boolean thin) {
            crosser.follow(ice, deed);
            if (thin) crosser.thin(ice, square);
            for (int i = 0; i < order.size; i++) {
                crosser.ready(order.goerAt(i), 0);
                if (!crosser.steps(ice, square)) return false;
                crosser.passBehind(ice);
            }
            return true;
        }

        /** How many of BELOW. */
        long likely() {
            return likelyBored(-1);
        }

        long likelyBored(int bored) {
            long product = 1;
            for (int place = 0; place < PLACES; place++) {
                product *= place == bored ? holdingBored[place] : holding[place];
            }
            return product;
        }

        int bestBored() {
            int best = 0;
            for (int place = 1; place < PLACES; place++) {
                if (likelyBored(place) > likelyBored(best)) best = place;
            }
            return best;
        }

        /** What stands above (0) or below (1) the line, in lowest terms. */
        long part(long above, int part) {
            long common = common(above, BELOW);
            if (common == 0) return 0;
            return (part == 0 ? above : BELOW) / common;
        }

        private static long common(long a, long b) {
            long x = a;
            long y = b;
            for (int n = 0; n < 200 && y != 0; n++) {
                long rest = x % y;
                x = y;
                y = rest;
            }
            return x;
        }
    }

    /** The pond in deed: its ice, what is led of crossings, and the image of both. */
    private static final class Deed {
        private static final int CROSSINGS = 0, GOT_OVER = 1, FALLS = 2, HEAVIEST = 3, SQUARE = 4, LEDS = 5;

        final Ice ice;
        private final int[] leds;
        private final int[] imageWeak;
        private final int[] imageLeds;
        private int imageMinute;
        private boolean hasImage;

        Deed() {
            ice = new Ice();
            leds = new int[LEDS];
            leds[SQUARE] = NOT;
            imageWeak = new int[SQUARES];
            imageLeds = new int[LEDS];
            imageMinute = 0;
            hasImage = false;
        }

        void lead(int fell, int weight) {
            leds[CROSSINGS]++;
            if (fell == OVER) {
                leds[GOT_OVER]++;
                leds[HEAVIEST] = Math.max(leds[HEAVIEST], weight);
            } else {
                leds[FALLS]++;
                leds[SQUARE] = fell;
            }
        }

        int told(int what) {
            return what >= 0 && what < LEDS ? leds[what] : BAD;
        }

        void keepImage() {
            System.arraycopy(ice.weak, 0, imageWeak, 0, SQUARES);
            System.arraycopy(leds, 0, imageLeds, 0, LEDS);
            imageMinute = ice.minute;
            hasImage = true;
        }

        boolean layImage() {
            if (!hasImage) return false;
            System.arraycopy(imageWeak, 0, ice.weak, 0, SQUARES);
            System.arraycopy(imageLeds, 0, leds, 0, LEDS);
            ice.minute = imageMinute;
            return true;
        }
    }

    /** The shelves, each with nothing, a body, or a row. */
    private static final class Shelves {
        static final int SHELVES = 6, LONGEST = 60;
        static final int BYTES = 0, SHORTS = 1, INTS = 2, BOOLEANS = 4;
        private static final int NOTHING = -1, BODY = -2, NO_BODY = -1;

        // the sort of the row that a shelf holds, or NOTHING, or BODY
        private final int[] held;
        private final int[] sizes;
        private final int[] bodies;
        private final long[][] rows;

        Shelves() {
            held = new int[SHELVES];
            sizes = new int[SHELVES];
            bodies = new int[SHELVES];
            rows = new long[SHELVES][LONGEST];
            Arrays.fill(held, NOTHING);
            Arrays.fill(bodies, NO_BODY);
        }

        boolean isEmpty(int shelf) {
            return !isShelf(shelf) || held[shelf] == NOTHING;
        }

        boolean isBytes(int shelf) {
            return isShelf(shelf) && held[shelf] == BYTES;
        }

        private boolean isRow(int shelf) {
            return isShelf(shelf) && held[shelf] >= BYTES;
        }

        int sizeOf(int shelf) {
            return isShelf(shelf) ? sizes[shelf] : 0;
        }

        int bodyOn(int shelf) {
            return isShelf(shelf) ? bodies[shelf] : NO_BODY;
        }

        /** Why no row of bytes can be had from a shelf; 0: it can. */
        int bytesRefusal(int shelf) {
            if (isEmpty(shelf)) return MISSING;
            return isBytes(shelf) ? 0 : OTHER_KIND;
        }

        /** Why no element can be had; 0: it can. */
        int placeRefusal(int shelf, int i) {
            if (isEmpty(shelf)) return MISSING;
            if (!isRow(shelf)) return OTHER_KIND;
            return i >= 0 && i < sizeOf(shelf) ? 0 : NO_PLACE;
        }

        void holdBody(int shelf, int body) {
            if (!isShelf(shelf)) return;
            held[shelf] = body < 0 ? NOTHING : BODY;
            bodies[shelf] = body < 0 ? NO_BODY : body;
            sizes[shelf] = 0;
        }

        void holdRow(int shelf, int sort, int n) {
            if (!isShelf(shelf) || n < 0 || n > LONGEST) return;
            held[shelf] = sort;
            bodies[shelf] = NO_BODY;
            sizes[shelf] = n;
            Arrays.fill(rows[shelf], 0L);
        }

        long get(int shelf, int i) {
            return isShelf(shelf) && i >= 0 && i < LONGEST ? rows[shelf][i] : 0;
        }

        int byteAt(int shelf, int i) {
            return (int) get(shelf, i);
        }

        void set(int shelf, int i, long v) {
            if (isShelf(shelf) && i >= 0 && i < LONGEST) rows[shelf][i] = fitted(held[shelf], v);
        }

        private static long fitted(int sort, long v) {
            switch (sort) {
                case BYTES: return (byte) v;
                case SHORTS: return (short) v;
                case INTS: return (int) v;
                case BOOLEANS: return v != 0 ? 1 : 0;
                default: return v;
            }
        }

        boolean areAlike(int shelf, int other) {
            return isRow(shelf) && isRow(other) && held[shelf] == held[other];
        }

        boolean hasSpan(int shelf, int i, int n) {
            int size = sizeOf(shelf);
            return i >= 0 && i <= size && n >= 0 && n <= size - i;
        }

        void move(int shelf, int i, int other, int j, int n) {
            if (!hasSpan(shelf, i, n) || !hasSpan(other, j, n)) return;
            if (!isShelf(shelf) || !isShelf(other)) return;
            System.arraycopy(rows[shelf], i, rows[other], j, n);
        }
    }

    /** Bodies of kinds, whose acts come from their own kind or from one above. */
    private static final class Acts {
        static final int KINDS = 8;
        private static final int MOST_BODIES = 50, MOST_TRACED = 24, DEEPEST = 40;
        private static final int GOES = 0, BEAR = 1, WAIT = 2, TELLS = 3, ACTS = 4;
        private static final int[] ABOVE = {-1, 0, 0, 2, 1, 3, 0, 4};
        // by kinds, of each what goes, bears, waits, tells by itself; 0: what the kind above does.
        // ORDER has what its interfaces GOES and TELLS do.
        private static final int[] BODIES = {
            1, 10, 11, 2,
            20, 0, 0, 0,
            0, 30, 0, 0,
            0, 41, 40, 0,
            0, 0, 50, 0,
            0, 0, 0, 60,
            70, 0, 0, 0,
            0, 80, 0, 81};

        private final int[] kinds;
        private final int[] traces;
        int bodies;
        int ran;
        private int number;

        Acts() {
            kinds = new int[MOST_BODIES];
            traces = new int[MOST_TRACED];
            bodies = 0;
            ran = 0;
            number = 0;
        }

        int add(int kind) {
            if (bodies < 0 || bodies >= MOST_BODIES) return FULL;
            kinds[bodies] = kind;
            bodies++;
            return bodies - 1;
        }

        int kindOf(int body) {
            return body >= 0 && body < bodies && body < MOST_BODIES ? kinds[body] : -1;
        }

        private static int above(int kind) {
            return isKind(kind) ? ABOVE[kind] : -1;
        }

        boolean isUnder(int kind, int k) {
            int at = kind;
            for (int n = 0; n < KINDS && at >= 0; n++) {
                if (at == k) return true;
                at = above(at);
            }
            return false;
        }

        int start(int body, int act, int x) {
            ran = 0;
            int kind = kindOf(body);
            if (kind < 0 || act < 0 || act >= ACTS) return 0;
            number = body;
            return run(kind, kind, act, x, 0);
        }

        int traced(int i) {
            return i >= 0 && i < ran && i < MOST_TRACED ? traces[i] : BAD;
        }

        private void note(int body) {
            if (ran >= 0 && ran < MOST_TRACED) traces[ran] = body;
            ran++;
        }

        private static int bodyOf(int kind, int act) {
            return isKind(kind) && act >= 0 && act < ACTS ? BODIES[kind * ACTS + act] : 0;
        }

        /** The kind, from one on upward, that does an act by itself. */
        private static int homeOf(int from, int act) {
            int home = from;
            for (int n = 0; n < KINDS && home >= 0 && bodyOf(home, act) == 0; n++) {
                home = above(home);
            }
            return home;
        }

        /** An act of a body of a kind, looked for from a kind on. */
        private int run(int kind, int from, int act, int x, int depth) {
            int home = homeOf(from, act);
            if (home < 0 || depth > DEEPEST) return 0;
            int body = bodyOf(home, act);
            int up = above(home);
            int deeper = depth + 1;
            note(body);
            switch (body) {
                case 1: return x + number;
                case 2: return run(kind, kind, BEAR, x, deeper) - run(kind, kind, WAIT, 1, deeper);
                case 10: return run(kind, kind, GOES, x, deeper) * 2;
                case 11: return x ^ number;
                case 20: return run(kind, up, GOES, x, deeper) + 3;
                case 30: return -run(kind, up, BEAR, x, deeper);
                case 40: return run(kind, up, WAIT, x, deeper) * 3;
                case 41: return run(kind, up, BEAR, x + 1, deeper);
                case 50: return run(kind, up, WAIT, x, deeper) - run(kind, kind, GOES, 2, deeper);
                case 60: return run(kind, up, TELLS, x, deeper) ^ 5;
                case 70: return run(kind, up, GOES, x, deeper) * 2;
                case 80: return run(kind, up, BEAR, x, deeper) + run(kind, kind, WAIT, 2, deeper);
                case 81: return run(kind, up, TELLS, x, deeper) - 1;
                default: return 0;
            }
        }
    }
}
