import java.util.Arrays;

/**
 * A gate that opens for the middle one of those who wait.
 *
 * The face only tests what it is told and hands it on; each class inside holds one part of the
 * document. All rows are made with the object and used again: after its constructor nothing is made.
 */
public final class MiddleOne {
    public static final int BAD = -1, NOT = -2, FULL = -3, STATE = -5, VOID = -2000000000;

    private static final int NOTHING_THERE = -11, OTHER_KIND = -12, NO_PLACE = -13, NO_SIZE = -14;
    private static final int FAULTY = -100;
    private static final int LONGEST_DAY = 100;
    private static final int LAST_SENT = 30;
    private static final int LAST_STROKE = 999;
    private static final int MOST_IN_SETS = 8;
    private static final int NOBODY = -1;

    private final Crowd told;
    private final Law law;
    private final Reader reader;
    private final Day day;
    private final Wishes wishes;
    private final Seen seen;
    private final Deed deed;
    private final Changes changes;
    private final Acts acts;
    private final Shelves shelves;

    public MiddleOne() {
        told = new Crowd();
        law = new Law();
        reader = new Reader();
        Picker picker = new Picker(law);
        day = new Day(picker);
        wishes = new Wishes(told, day, picker);
        shelves = new Shelves();
        seen = new Seen(told, day, shelves);
        deed = new Deed(told, picker);
        changes = new Changes(told);
        acts = new Acts();
    }

    // ---- people

    public int person(int height, int comes) {
        if (!Crowd.fits(Crowd.HEIGHT, height) || !Crowd.fits(Crowd.COMES, comes)) return BAD;
        if (told.size() >= Crowd.MOST) return FULL;
        return told.joins(height, comes, Crowd.LONG_STAY);
    }

    public int people(int shelf, int i, int n) {
        if (!Shelves.isShelf(shelf) || n < 1 || n > Crowd.MOST) return BAD;
        if (shelves.isBare(shelf)) return 0;
        if (!shelves.holdsRow(shelf, Shelves.SHORTS)) return OTHER_KIND;
        return joinFromRow(shelf, i, n);
    }

    private int joinFromRow(int shelf, int i, int n) {
        for (int came = 0; came < n; came++) {
            // Looked at ahead of the sum, which would wrap for a place near the greatest int.
            if (i < 0 || i > Shelves.ROOM) return came;
            int at = i + 3 * came;
            if (!shelves.isPlace(shelf, at) || !shelves.isPlace(shelf, at + 2)) return came;
            int height = (int) shelves.cell(shelf, at);
            int comes = (int) shelves.cell(shelf, at + 1);
            int stays = (int) shelves.cell(shelf, at + 2);
            boolean so = Crowd.fits(Crowd.HEIGHT, height) && Crowd.fits(Crowd.COMES, comes) && Crowd.fits(Crowd.STAYS, stays);
            if (!so || told.size() >= Crowd.MOST) return came;
            told.joins(height, comes, stays);
        }
        return n;
    }

    public int mend(int person, int what, int v) {
        if (!told.has(person) || !Crowd.fits(what, v)) return BAD;
        int was = told.number(what, person);
        if (was != v) changes.happens(person, what, v);
        return was;
    }

    public int of(int person, int what) {
        if (!told.has(person)) return BAD;
        if (Crowd.isNumber(what)) return told.number(what, person);
        if (what == 10) return (deed.waitingNow() >> person) & 1;
        if (what == 11) return deed.inSince(person);
        return BAD;
    }

    public int feed(int letter) {
        if (letter < 0 || letter > 255) return BAD;
        if (reader.isFull()) return FULL;
        return reader.takes(letter);
    }

    public int law() {
        int fault = reader.faultOfText();
        if (fault < 0) law.learns(reader);
        reader.clears();
        return fault < 0 ? 1 : FAULTY - fault;
    }

    public int tall(int person, int sn) {
        if (!told.has(person) || sn < 0 || sn / 100 > LAST_STROKE) return VOID;
        return law.tallness(told, person, sn / 100, sn % 100);
    }

    // ---- days in thought

    public int enters(int person, int n) {
        if (!told.has(person) || !isDay(n)) return BAD;
        day.begins(told);
        return day.till(person, n);
    }

    public int stroke(int s, int what) {
        if (s < 0 || s >= LONGEST_DAY || !isEither(what)) return BAD;
        day.begins(told);
        day.runs(s, Picker.MIDDLE);
        int who = day.passes(s);
        if (what == 1) return day.waitedLast();
        return who == NOBODY ? NOT : who;
    }

    public int day(int n, int what) {
        if (!isDay(n) || what < 0 || what > 2) return BAD;
        day.begins(told);
        int in = day.runs(n, Picker.MIDDLE);
        if (what == 0) return in;
        return what == 1 ? day.wentWithout(n) : day.mostWaited();
    }

    public long mean(int n, int what, int part) {
        if (!isDay(n) || !isEither(what) || !isEither(part)) return Long.MIN_VALUE;
        day.begins(told);
        int in = day.runs(n, Picker.MIDDLE);
        if (in == 0) return NOT;
        int sum = what == 0 ? day.waitsWithin() : day.heightsWithin();
        int shared = sharedDivisor(sum, in);
        if (shared < 1) return NOT;
        return part == 0 ? sum / shared : in / shared;
    }

    /** Euclid's; far more steps than two ints can need. */
    private static int sharedDivisor(int a, int b) {
        int great = a;
        int small = b;
        for (int step = 0; step < 100 && small != 0; step++) {
            int rest = great % small;
            great = small;
            small = rest;
        }
        return great;
    }

    public int sent(int person, int sb, int what) {
        if (!told.has(person) || sb < 0 || sb / 10 > LAST_SENT || !isEither(sb % 10) || !isEither(what)) return BAD;
        return wishes.sentAway(person, sb / 10, sb % 10 == 1, what);
    }

    public int brought(int person, int s, int what) {
        if (!told.has(person) || s < 0 || s >= LONGEST_DAY || !isEither(what)) return BAD;
        return wishes.boysFor(person, s, what);
    }

    public int heels(int person, int n, int what) {
        if (!told.has(person) || !isDay(n) || what < 0 || what > 2) return BAD;
        return wishes.heelsFor(person, n, what);
    }

    public int later(int person) {
        if (!told.has(person)) return BAD;
        return wishes.comesBest(person);
    }

    public int allWear(int person) {
        if (!isOneOrAll(person)) return BAD;
        return wishes.allChoose(person);
    }

    // ---- gates

    public int gates(int set, int person) {
        if (set < 0 || set > told.everyone() || !isOneOrAll(person)) return BAD;
        day.begins(told);
        int in = day.twoGates(set, LONGEST_DAY);
        return person < 0 ? in : day.inSince(person);
    }

    public int where(int person) {
        if (!told.has(person)) return BAD;
        return wishes.betterGate(person);
    }

    public int bestSet(int n, int what) {
        if (!isDay(n) || !isEither(what)) return BAD;
        if (told.size() > MOST_IN_SETS) return STATE;
        return wishes.fullestSet(n, what);
    }

    public int atLast() {
        day.begins(told);
        day.runs(LONGEST_DAY, Picker.MIDDLE);
        return day.lastIn();
    }

    public int rule(int n) {
        if (!isDay(n)) return BAD;
        return wishes.placeForAll(n);
    }

    // ---- days seen, drawn

    public int judge(int shelf) {
        int refused = refusedAsSeen(shelf);
        if (refused != 0) return refused;
        return seen.firstUnlike(shelf);
    }

    public int with(int shelf, int what) {
        if (!isEither(what)) return BAD;
        int refused = refusedAsSeen(shelf);
        if (refused != 0) return refused;
        if (told.size() > MOST_IN_SETS) return STATE;
        return seen.setsThatFit(shelf, what);
    }

    public int heeled(int shelf) {
        int refused = refusedAsSeen(shelf);
        if (refused != 0) return refused;
        if (told.size() > MOST_IN_SETS) return STATE;
        return seen.leastHeeled(shelf);
    }

    public int drawn(int seed, int n, int person) {
        if (n < 1 || n > 20 || !isOneOrAll(person)) return BAD;
        return seen.drawnDays(seed, n, person);
    }

    private int refusedAsSeen(int shelf) {
        if (!Shelves.isShelf(shelf)) return BAD;
        if (shelves.isBare(shelf)) return NOTHING_THERE;
        return shelves.holdsRow(shelf, Shelves.BYTES) ? 0 : OTHER_KIND;
    }

    // ---- in deed

    public int strike() {
        if (deed.leads(Deed.NOW) >= LAST_STROKE) return STATE;
        int who = deed.opensNow();
        return who == NOBODY ? NOT : who;
    }

    public int take(int person) {
        if (!told.has(person)) return BAD;
        if (((deed.waitingNow() >> person) & 1) == 0) return STATE;
        return deed.sendsAway(person);
    }

    public int dawn() {
        return deed.dawns();
    }

    public int led(int what) {
        if (what < 0 || what > Deed.NOW) return BAD;
        return deed.leads(what);
    }

    public int image() {
        return deed.keepsImage();
    }

    public int back() {
        if (!deed.hasImage()) return STATE;
        return deed.laysBack();
    }

    public int undo() {
        if (changes.undoable() == 0) return STATE;
        return changes.undoes();
    }

    public int redo() {
        if (changes.redoable() == 0) return STATE;
        return changes.redoes();
    }

    // ---- acts, shelves

    public int body(int kind) {
        if (!Acts.isKind(kind)) return BAD;
        if (acts.size() >= Acts.MOST) return FULL;
        return acts.joins(kind);
    }

    public int act(int body, int act, int x) {
        return acts.does(body, act, x);
    }

    public int trace(int i) {
        return acts.traced(i);
    }

    public int keep(int shelf, int body) {
        if (!Shelves.isShelf(shelf) || body != Shelves.NO_BODY && !acts.has(body)) return BAD;
        shelves.holds(shelf, body);
        return 1;
    }

    public int row(int shelf, int sort, int n) {
        if (!Shelves.isShelf(shelf) || sort < 0 || sort > Shelves.BOOLEANS || n > Shelves.ROOM) return BAD;
        if (n < 0) return NO_SIZE;
        shelves.lays(shelf, sort, n);
        return 1;
    }

    public int put(int shelf, int i, long v) {
        int refused = refusedAsRow(shelf);
        if (refused != 0) return refused;
        if (!shelves.isPlace(shelf, i)) return NO_PLACE;
        shelves.sets(shelf, i, v);
        return 1;
    }

    public long element(int shelf, int i) {
        if (refusedAsRow(shelf) != 0 || !shelves.isPlace(shelf, i)) return Long.MIN_VALUE;
        return shelves.cell(shelf, i);
    }

    public int shift(int shelf, int i, int other, int j, int n) {
        if (!Shelves.isShelf(shelf) || !Shelves.isShelf(other)) return BAD;
        if (shelves.isBare(shelf) || shelves.isBare(other)) return NOTHING_THERE;
        if (!shelves.holdsLikeRows(shelf, other)) return OTHER_KIND;
        if (!shelves.isSpan(shelf, i, n) || !shelves.isSpan(other, j, n)) return NO_PLACE;
        shelves.moves(shelf, i, other, j, n);
        return n;
    }

    public int taken(int shelf, int k) {
        if (!Shelves.isShelf(shelf) || !Acts.isKind(k)) return BAD;
        if (shelves.isBare(shelf)) return NOTHING_THERE;
        int kind = acts.kindOf(shelves.bodyOn(shelf));
        return Acts.isUnder(kind, k) ? kind : OTHER_KIND;
    }

    public int count(int what) {
        switch (what) {
            case 0: return told.size();
            case 1: return Integer.bitCount(deed.waitingNow());
            case 2: return deed.numberIn();
            case 3: return reader.size();
            case 4: return changes.undoable();
            case 5: return acts.size();
            case 6: return acts.ranLast();
            default: return BAD;
        }
    }

    private int refusedAsRow(int shelf) {
        if (!Shelves.isShelf(shelf)) return BAD;
        if (shelves.isBare(shelf)) return NOTHING_THERE;
        return shelves.bodyOn(shelf) == Shelves.NO_BODY ? 0 : OTHER_KIND;
    }

    private boolean isOneOrAll(int person) {
        return person == -1 || told.has(person);
    }

    private static boolean isDay(int n) {
        return n >= 0 && n <= LONGEST_DAY;
    }

    private static boolean isEither(int what) {
        return what == 0 || what == 1;
    }

    /** People with their numbers. One crowd is as told; a day in thought has another to alter. */
    private static final class Crowd {
        static final int HEIGHT = 0, COMES = 1, STAYS = 2, HEELS = 3, PRICE = 4;
        static final int MOST = 12;
        static final int MOST_BOYS = 3;
        static final int LONG_STAY = 99;
        static final int MOST_HEELS = 20;
        /** Boys that are brought stand behind the people, so a crowd has room for both. */
        static final int ROOM = MOST + MOST_BOYS;
        private static final int FIRST_PRICE = 5;
        private static final int SORTS = 5;
        private static final int[] LEAST = {100, 0, 1, 0, 0};
        private static final int[] GREATEST = {220, 99, 99, 20, 99};

        private static final int UNKNOWN = -1;

        private final int[] numbers = new int[SORTS * ROOM];
        private int count = 0;
        /** Who is there at the strokes of a day: the same for the many days that one question tries. */
        private final int[] there = new int[LONGEST_DAY];
        private boolean thereIsStale = true;

        static boolean isNumber(int what) {
            return what >= 0 && what < SORTS;
        }

        static boolean fits(int what, int v) {
            return isNumber(what) && v >= LEAST[what] && v <= GREATEST[what];
        }

        int size() {
            return count;
        }

        boolean has(int p) {
            return p >= 0 && p < count;
        }

        int everyone() {
            return (1 << count) - 1;
        }

        int number(int what, int p) {
            return what >= 0 && what < SORTS && p >= 0 && p < count ? numbers[what * ROOM + p] : 0;
        }

        void setNumber(int what, int p, int v) {
            if (what < 0 || what >= SORTS || p < 0 || p >= count) return;
            numbers[what * ROOM + p] = v;
            if (what == COMES || what == STAYS) thereIsStale = true;
        }

        int joins(int height, int comes, int stays) {
            if (count >= ROOM) return NOBODY;
            int p = count;
            count++;
            numbers[HEIGHT * ROOM + p] = height;
            numbers[COMES * ROOM + p] = comes;
            numbers[STAYS * ROOM + p] = stays;
            numbers[HEELS * ROOM + p] = 0;
            numbers[PRICE * ROOM + p] = FIRST_PRICE;
            thereIsStale = true;
            return p;
        }

        /** The last ones go again, till n are left. */
        void shrinks(int n) {
            if (n < 0 || n >= count) return;
            count = n;
            thereIsStale = true;
        }

        void becomes(Crowd other) {
            System.arraycopy(other.numbers, 0, numbers, 0, numbers.length);
            count = other.count;
            thereIsStale = true;
        }

        /** Who of a set is there at a stroke, as bits. */
        int waiting(int s, int among) {
            if (s < 0 || s >= LONGEST_DAY) return thereAt(s) & among;
            if (thereIsStale) {
                Arrays.fill(there, UNKNOWN);
                thereIsStale = false;
            }
            if (there[s] == UNKNOWN) there[s] = thereAt(s);
            return there[s] & among;
        }

        private int thereAt(int s) {
            int bits = 0;
            for (int p = 0; p < count; p++) {
                int from = numbers[COMES * ROOM + p];
                if (from <= s && s < from + numbers[STAYS * ROOM + p]) bits |= 1 << p;
            }
            return bits;
        }

        int comeBy(int s) {
            int bits = 0;
            for (int p = 0; p < count; p++) {
                if (numbers[COMES * ROOM + p] <= s) bits |= 1 << p;
            }
            return bits;
        }

        int priceOf(int set) {
            int sum = 0;
            for (int p = 0; p < count; p++) {
                if (((set >> p) & 1) != 0) sum += numbers[PRICE * ROOM + p];
            }
            return sum;
        }
    }

    /** THE TAPE, and how it is read: a text becomes steps for a stack, or tells its fault. */
    private static final class Reader {
        static final int TAPE = 120;
        /** A byte gives at most one step; the end of the last line gives one more. */
        static final int MOST_STEPS = TAPE + 1;
        /** Steps that give a value are small letters: the names, and c for a number. */
        static final int CONSTANT = 'c', NEGATE = '~', SKIP = '?', END = ';';
        private static final int MOST_OPEN = 6;
        private static final int MOST_DIGITS = 4;
        private static final int COMPARING = 2;
        private static final int OPERAND = 5;
        private static final int NO_SIGN = -1;

        private final int[] tape = new int[TAPE];
        private int length = 0;
        private int place = 0;
        private final int[] steps = new int[MOST_STEPS];
        private final int[] details = new int[MOST_STEPS];
        private int made = 0;

        boolean isFull() {
            return length >= TAPE;
        }

        int size() {
            return length;
        }

        int takes(int letter) {
            if (length < TAPE) {
                tape[length] = letter;
                length++;
            }
            return length;
        }

        void clears() {
            length = 0;
        }

        /** Every sign is looked at ahead of being passed, so the reading stops at the fault; -1: none. */
        int faultOfText() {
            place = 0;
            made = 0;
            for (int line = 0; line <= TAPE; line++) {
                if (!reads()) return place;
                if (place >= length) return -1;
                if (sign() != ';') return place;
                place++;
            }
            return place;
        }

        int copySteps(int[] stepsTo, int[] detailsTo) {
            int copied = Math.min(made, Math.min(stepsTo.length, detailsTo.length));
            System.arraycopy(steps, 0, stepsTo, 0, copied);
            System.arraycopy(details, 0, detailsTo, 0, copied);
            return copied;
        }

        private boolean reads() {
            if (!layer(0, 0)) return false;
            if (sign() == '?') {
                place++;
                int skip = made;
                makes(SKIP, 0);
                if (!layer(0, 0)) return false;
                makes(END, 0);
                if (skip < MOST_STEPS) details[skip] = made;
                return true;
            }
            makes(END, 0);
            return true;
        }

        /** Layers 0 to 4 are E, A, B, S, P: operands of the next layer, joined by this layer's signs. */
        private boolean layer(int rank, int open) {
            if (rank >= OPERAND) return operand(open);
            if (!layer(rank + 1, open)) return false;
            for (int joins = 0; joins < TAPE; joins++) {
                int joiner = sign();
                boolean comparedAlready = rank == COMPARING && joins > 0;
                if (rankOf(joiner) != rank || comparedAlready) return true;
                place++;
                if (!layer(rank + 1, open)) return false;
                makes(joiner, 0);
            }
            return true;
        }

        private boolean operand(int open) {
            int sign = sign();
            if (isDigit(sign)) return digits();
            if (isName(sign)) {
                place++;
                makes(sign, 0);
                return true;
            }
            if (open >= MOST_OPEN) return false;
            if (sign == '(') {
                place++;
                if (!layer(0, open + 1) || sign() != ')') return false;
                place++;
                return true;
            }
            if (sign != '!' && sign != '-') return false;
            place++;
            if (!operand(open + 1)) return false;
            makes(sign == '!' ? '!' : NEGATE, 0);
            return true;
        }

        private boolean digits() {
            int value = 0;
            for (int read = 0; read < MOST_DIGITS && isDigit(sign()); read++) {
                value = value * 10 + (sign() - '0');
                place++;
            }
            makes(CONSTANT, value);
            return true;
        }

        private int sign() {
            return place < length ? tape[place] : NO_SIGN;
        }

        private void makes(int step, int detail) {
            if (made >= MOST_STEPS) return;
            steps[made] = step;
            details[made] = detail;
            made++;
        }

        private static boolean isDigit(int sign) {
            return sign >= '0' && sign <= '9';
        }

        private static boolean isName(int sign) {
            return sign == 'h' || sign == 'e' || sign == 'w' || sign == 's' || sign == 'k' || sign == 'n';
        }

        private static int rankOf(int sign) {
            switch (sign) {
                case '|': return 0;
                case '&': return 1;
                case '<': case '=': case '>': return COMPARING;
                case '+': case '-': return 3;
                case '*': case '/': case '%': return 4;
                default: return -1;
            }
        }
    }

    /** THE LAW: steps over a stack; without any, HEIGHT and HEELS. */
    private static final class Law {
        private final int[] steps = new int[Reader.MOST_STEPS];
        private final int[] details = new int[Reader.MOST_STEPS];
        private int size = 0;
        /** A text has room for no more operands than half its bytes. */
        private final int[] stack = new int[Reader.MOST_STEPS / 2 + 1];

        void learns(Reader reader) {
            size = reader.copySteps(steps, details);
        }

        int tallness(Crowd crowd, int p, int s, int n) {
            int height = crowd.number(Crowd.HEIGHT, p);
            int heels = crowd.number(Crowd.HEELS, p);
            if (size == 0) return height + heels;
            int top = -1;
            for (int at = 0; at < size; at++) {
                int step = steps[at];
                if (step >= 'a' && step <= 'z') {
                    if (top >= stack.length - 1) return 0;
                    top++;
                    switch (step) {
                        case 'h': stack[top] = height; break;
                        case 'e': stack[top] = heels; break;
                        case 'w': stack[top] = s - crowd.number(Crowd.COMES, p); break;
                        case 's': stack[top] = s; break;
                        case 'k': stack[top] = p; break;
                        case 'n': stack[top] = n; break;
                        default: stack[top] = details[at];
                    }
                    continue;
                }
                if (top < 0) return 0;
                switch (step) {
                    case '!': stack[top] = stack[top] == 0 ? 1 : 0; break;
                    case Reader.NEGATE: stack[top] = -stack[top]; break;
                    case Reader.END: return stack[top];
                    case Reader.SKIP:
                        // The steps of the next line begin there; the loop itself goes one on.
                        if (stack[top] == 0) at = Math.max(at, details[at] - 1);
                        top--;
                        break;
                    default:
                        if (top < 1) return 0;
                        top--;
                        stack[top] = joined(step, stack[top], stack[top + 1]);
                }
            }
            return 0;
        }

        private static int joined(int sign, int a, int b) {
            switch (sign) {
                case '|': return a != 0 || b != 0 ? 1 : 0;
                case '&': return a != 0 && b != 0 ? 1 : 0;
                case '<': return a < b ? 1 : 0;
                case '=': return a == b ? 1 : 0;
                case '>': return a > b ? 1 : 0;
                case '+': return a + b;
                case '-': return a - b;
                case '*': return a * b;
                case '/': return b == 0 ? 0 : a / b;
                case '%': return b == 0 ? 0 : a % b;
                default: return 0;
            }
        }
    }

    /** Sets those who wait in order and names the one at a place. */
    private static final class Picker {
        /** Places 0 to 4 go by fourths of the queue, so the last is the tallest one's. */
        static final int TALLEST = 4, MIDDLE = 5;

        private final Law law;
        private final int[] order = new int[Crowd.ROOM];
        private final int[] tallness = new int[Crowd.ROOM];

        Picker(Law law) {
            this.law = law;
        }

        int picks(Crowd crowd, int s, int waiting, int place) {
            int n = Integer.bitCount(waiting);
            if (n == 0 || place == MIDDLE && n % 2 == 0) return NOBODY;
            int index = place == MIDDLE ? n / 2 : place * (n - 1) / TALLEST;
            int placed = 0;
            for (int p = 0; p < crowd.size(); p++) {
                if (((waiting >> p) & 1) == 0) continue;
                // Whoever waits alone is picked, however tall.
                int tall = n == 1 ? 0 : law.tallness(crowd, p, s, n);
                int at = placed;
                // A like one that stands there already has the lesser number, and stays ahead.
                for (; at > 0 && tallness[at - 1] > tall; at--) {
                    order[at] = order[at - 1];
                    tallness[at] = tallness[at - 1];
                }
                order[at] = p;
                tallness[at] = tall;
                placed++;
            }
            return index >= 0 && index < placed ? order[index] : NOBODY;
        }
    }

    /** A day in thought, on a crowd of its own that a question may alter ahead of it. */
    private static final class Day {
        private final Picker picker;
        private final Crowd crowd = new Crowd();
        private final int[] inAt = new int[Crowd.ROOM];
        private int outside = 0;
        private int inside = 0;
        private int waited = 0;
        private int longest = 0;

        Day(Picker picker) {
            this.picker = picker;
        }

        Crowd who() {
            return crowd;
        }

        void begins(Crowd told) {
            crowd.becomes(told);
            again(told.everyone());
        }

        /** From stroke 0 on with those of a set alone. */
        void again(int coming) {
            outside = coming;
            inside = 0;
            waited = 0;
            longest = 0;
            Arrays.fill(inAt, NOT);
        }

        /** Again with all, one number of one being another. */
        void againWith(int what, int person, int v) {
            crowd.setNumber(what, person, v);
            again(crowd.everyone());
        }

        private int opens(int s, int among, int place) {
            int waiting = crowd.waiting(s, among);
            waited = Integer.bitCount(waiting);
            longest = Math.max(longest, waited);
            int who = picker.picks(crowd, s, waiting, place);
            if (crowd.has(who)) {
                inAt[who] = s;
                inside |= 1 << who;
                outside &= ~(1 << who);
            }
            return who;
        }

        int passes(int s) {
            return opens(s, outside, Picker.MIDDLE);
        }

        int runs(int n, int place) {
            for (int s = 0; s < n && outside != 0; s++) opens(s, outside, place);
            return Integer.bitCount(inside);
        }

        /** No further than one is let in, or stays. */
        int till(int person, int n) {
            if (!crowd.has(person)) return NOT;
            int end = Math.min(n, crowd.number(Crowd.COMES, person) + crowd.number(Crowd.STAYS, person));
            for (int s = 0; s < end && inAt[person] == NOT; s++) opens(s, outside, Picker.MIDDLE);
            return inAt[person];
        }

        int twoGates(int set, int n) {
            for (int s = 0; s < n && outside != 0; s++) {
                opens(s, outside & ~set, Picker.MIDDLE);
                opens(s, outside & set, Picker.TALLEST);
            }
            return Integer.bitCount(inside);
        }

        boolean allAreIn() {
            return outside == 0;
        }

        int stillOutside() {
            return outside;
        }

        int inSince(int person) {
            return crowd.has(person) ? inAt[person] : NOT;
        }

        int waitedLast() {
            return waited;
        }

        int mostWaited() {
            return longest;
        }

        int wentWithout(int n) {
            int without = 0;
            for (int p = 0; p < crowd.size(); p++) {
                int over = crowd.number(Crowd.COMES, p) + crowd.number(Crowd.STAYS, p);
                if (inAt[p] == NOT && over <= n) without++;
            }
            return without;
        }

        int waitsWithin() {
            int sum = 0;
            for (int p = 0; p < crowd.size(); p++) {
                if (inAt[p] != NOT) sum += inAt[p] - crowd.number(Crowd.COMES, p);
            }
            return sum;
        }

        int heightsWithin() {
            int sum = 0;
            for (int p = 0; p < crowd.size(); p++) {
                if (inAt[p] != NOT) sum += crowd.number(Crowd.HEIGHT, p);
            }
            return sum;
        }

        int lastIn() {
            if (outside != 0) return NOT;
            int last = 0;
            for (int p = 0; p < crowd.size(); p++) last = Math.max(last, inAt[p]);
            return last;
        }
    }

    /** What one should do, or have done, to be let in: each way is tried on a day in thought. */
    private static final class Wishes {
        private static final int LEAST_HEIGHT = 100, GREATEST_HEIGHT = 220;
        private static final int WEARING_STROKES = 30, MOST_ROUNDS = 20;

        private final Crowd told;
        private final Day day;
        private final Picker picker;

        Wishes(Crowd told, Day day, Picker picker) {
            this.told = told;
            this.day = day;
            this.picker = picker;
        }

        int sentAway(int person, int s, boolean by, int what) {
            day.begins(told);
            // To send away whom nobody has seen by then costs more people and changes nothing.
            int others = told.comeBy(s) & ~(1 << person);
            int price = NOT;
            int bits = NOT;
            for (int set = 0; set <= others; set++) {
                if ((set & ~others) != 0) continue;
                int cost = told.priceOf(set);
                if (price != NOT && !isBetter(cost, set, price, bits)) continue;
                day.again(told.everyone() & ~set);
                int at = day.till(person, s + 1);
                if (at == s || by && at != NOT) {
                    price = cost;
                    bits = set;
                }
            }
            return what == 0 ? price : bits;
        }

        /** Sets come by growing bits: of like ones the first stays. */
        private static boolean isBetter(int cost, int set, int price, int bits) {
            return cost < price || cost == price && Integer.bitCount(set) < Integer.bitCount(bits);
        }

        int boysFor(int person, int s, int what) {
            day.begins(told);
            day.runs(s, Picker.MIDDLE);
            if (day.inSince(person) != NOT) return NOT;
            for (int boys = 0; boys <= Crowd.MOST_BOYS; boys++) {
                int height = heightOfBoys(person, s, boys);
                if (height == NOT) continue;
                if (what == 0) return boys;
                return boys == 0 ? 0 : height;
            }
            return NOT;
        }

        private int heightOfBoys(int person, int s, int boys) {
            Crowd crowd = day.who();
            crowd.shrinks(told.size());
            for (int boy = 0; boy < boys; boy++) crowd.joins(LEAST_HEIGHT, s, 1);
            int among = day.stillOutside() | (crowd.everyone() & ~told.everyone());
            int waiting = crowd.waiting(s, among);
            if (Integer.bitCount(waiting) % 2 == 0) return NOT;
            int last = boys == 0 ? LEAST_HEIGHT : GREATEST_HEIGHT;
            for (int height = LEAST_HEIGHT; height <= last; height++) {
                for (int p = told.size(); p < crowd.size(); p++) crowd.setNumber(Crowd.HEIGHT, p, height);
                if (picker.picks(crowd, s, waiting, Picker.MIDDLE) == person) return height;
            }
            return NOT;
        }

        int heelsFor(int person, int n, int what) {
            day.begins(told);
            int bits = 0;
            int least = NOT;
            int earliest = NOT;
            int first = n;
            for (int heels = 0; heels <= Crowd.MOST_HEELS; heels++) {
                day.againWith(Crowd.HEELS, person, heels);
                int at = day.till(person, n);
                if (at == NOT) continue;
                bits |= 1 << heels;
                if (least == NOT) least = heels;
                if (at < first) {
                    first = at;
                    earliest = heels;
                }
            }
            if (what == 2) return bits;
            return what == 0 ? least : earliest;
        }

        int comesBest(int person) {
            day.begins(told);
            int best = NOT;
            int wait = LONGEST_DAY;
            for (int comes = 0; comes < LONGEST_DAY; comes++) {
                day.againWith(Crowd.COMES, person, comes);
                // Only a shorter wait than the best one yet counts, so the day need go no further.
                int at = day.till(person, Math.min(LONGEST_DAY, comes + wait));
                if (at == NOT) continue;
                best = comes;
                wait = at - comes;
            }
            return best;
        }

        int allChoose(int person) {
            day.begins(told);
            Crowd crowd = day.who();
            for (int round = 1; round <= MOST_ROUNDS; round++) {
                boolean changed = false;
                for (int p = 0; p < crowd.size(); p++) {
                    int was = crowd.number(Crowd.HEELS, p);
                    int best = earliestHeels(p);
                    crowd.setNumber(Crowd.HEELS, p, best);
                    if (best != was) changed = true;
                }
                if (!changed) return person < 0 ? round : crowd.number(Crowd.HEELS, person);
            }
            return NOT;
        }

        private int earliestHeels(int person) {
            int best = 0;
            int first = WEARING_STROKES;
            for (int heels = 0; heels <= Crowd.MOST_HEELS; heels++) {
                day.againWith(Crowd.HEELS, person, heels);
                int at = day.till(person, first);
                if (at == NOT) continue;
                first = at;
                best = heels;
            }
            return best;
        }

        int betterGate(int person) {
            day.begins(told);
            int first = day.till(person, LONGEST_DAY);
            day.again(told.everyone());
            day.twoGates(1 << person, LONGEST_DAY);
            int second = day.inSince(person);
            if (second == NOT) return first == NOT ? NOT : 0;
            return first == NOT || second < first ? 1 : 0;
        }

        int fullestSet(int n, int what) {
            day.begins(told);
            int most = -1;
            int best = 0;
            for (int set = 0; set <= told.everyone() && most < told.size(); set++) {
                day.again(told.everyone());
                int in = day.twoGates(set, n);
                if (in <= most) continue;
                most = in;
                best = set;
            }
            return what == 0 ? best : most;
        }

        int placeForAll(int n) {
            day.begins(told);
            for (int place = 0; place <= Picker.TALLEST; place++) {
                day.again(told.everyone());
                day.runs(n, place);
                if (day.allAreIn()) return place;
            }
            return NOT;
        }
    }

    /** Days told by who was let in, and days by draws. */
    private static final class Seen {
        private static final int MORE_HEELS = 10;
        private static final int DRAWN_STROKES = 60;

        private final Crowd told;
        private final Day day;
        private final Shelves shelves;

        Seen(Crowd told, Day day, Shelves shelves) {
            this.told = told;
            this.day = day;
            this.shelves = shelves;
        }

        int firstUnlike(int shelf) {
            day.begins(told);
            return goesOnUnlike(shelf);
        }

        private int goesOnUnlike(int shelf) {
            int strokes = shelves.sizeOf(shelf);
            for (int s = 0; s < strokes; s++) {
                if (day.passes(s) != shelves.cell(shelf, s)) return s;
            }
            return NOT;
        }

        int setsThatFit(int shelf, int what) {
            day.begins(told);
            int fitting = 0;
            int inAll = told.everyone();
            for (int set = 0; set <= told.everyone(); set++) {
                day.again(set);
                if (goesOnUnlike(shelf) != NOT) continue;
                fitting++;
                inAll &= set;
            }
            if (what == 0) return fitting;
            return fitting == 0 ? NOT : inAll;
        }

        int leastHeeled(int shelf) {
            day.begins(told);
            for (int set = 0; set <= told.everyone(); set++) {
                for (int p = 0; p < told.size(); p++) {
                    int heels = told.number(Crowd.HEELS, p);
                    int more = Math.min(Crowd.MOST_HEELS, heels + MORE_HEELS);
                    day.who().setNumber(Crowd.HEELS, p, ((set >> p) & 1) != 0 ? more : heels);
                }
                day.again(told.everyone());
                if (goesOnUnlike(shelf) == NOT) return set;
            }
            return NOT;
        }

        int drawnDays(int seed, int n, int person) {
            day.begins(told);
            int z = seed;
            int times = 0;
            for (int d = 0; d < n; d++) {
                for (int p = 0; p < told.size(); p++) {
                    z = z * 1103515245 + 12345;
                    day.who().setNumber(Crowd.COMES, p, (z >>> 8) % DRAWN_STROKES);
                }
                day.again(told.everyone());
                int in = day.runs(DRAWN_STROKES, Picker.MIDDLE);
                if (person < 0) times += in;
                else if (day.inSince(person) != NOT) times++;
            }
            return times;
        }
    }

    /** Strokes in deed, what is led of them, and the image. */
    private static final class Deed {
        static final int STROKES = 0, LET_IN = 1, TAKEN = 2, DAWNS = 3, MOST_WAITED = 4, NOW = 5;
        private static final int IN = 6, AWAY = 7, STATES = 8;

        private final Crowd told;
        private final Picker picker;
        private final int[] state = new int[STATES];
        private final int[] inAt = new int[Crowd.MOST];
        private final int[] keptState = new int[STATES];
        private final int[] keptInAt = new int[Crowd.MOST];
        private boolean kept = false;

        Deed(Crowd told, Picker picker) {
            this.told = told;
            this.picker = picker;
            Arrays.fill(inAt, NOT);
        }

        int leads(int what) {
            return what >= 0 && what <= NOW ? state[what] : 0;
        }

        int waitingNow() {
            return told.waiting(state[NOW], told.everyone() & ~state[IN] & ~state[AWAY]);
        }

        int numberIn() {
            return Integer.bitCount(state[IN]);
        }

        int inSince(int person) {
            return person >= 0 && person < Crowd.MOST ? inAt[person] : NOT;
        }

        int opensNow() {
            int waiting = waitingNow();
            int who = picker.picks(told, state[NOW], waiting, Picker.MIDDLE);
            state[MOST_WAITED] = Math.max(state[MOST_WAITED], Integer.bitCount(waiting));
            if (who >= 0 && who < Crowd.MOST) {
                inAt[who] = state[NOW];
                state[IN] |= 1 << who;
                state[LET_IN]++;
            }
            state[STROKES]++;
            state[NOW]++;
            return who;
        }

        int sendsAway(int person) {
            state[AWAY] |= 1 << person;
            state[TAKEN]++;
            return state[NOW];
        }

        int dawns() {
            int were = numberIn();
            state[NOW] = 0;
            state[IN] = 0;
            state[AWAY] = 0;
            state[DAWNS]++;
            Arrays.fill(inAt, NOT);
            return were;
        }

        boolean hasImage() {
            return kept;
        }

        int keepsImage() {
            System.arraycopy(state, 0, keptState, 0, STATES);
            System.arraycopy(inAt, 0, keptInAt, 0, Crowd.MOST);
            kept = true;
            return state[NOW];
        }

        int laysBack() {
            System.arraycopy(keptState, 0, state, 0, STATES);
            System.arraycopy(keptInAt, 0, inAt, 0, Crowd.MOST);
            return state[NOW];
        }
    }

    /** The latest changes of people's numbers, to be undone and done again. */
    private static final class Changes {
        private static final int MOST = 40;

        private final Crowd told;
        private final int[] person = new int[MOST];
        private final int[] what = new int[MOST];
        private final int[] before = new int[MOST];
        private final int[] after = new int[MOST];
        private int done = 0;
        private int kept = 0;

        Changes(Crowd told) {
            this.told = told;
        }

        int undoable() {
            return done;
        }

        int redoable() {
            return kept - done;
        }

        void happens(int p, int number, int v) {
            if (done >= MOST) forgetsOldest();
            person[done] = p;
            what[done] = number;
            before[done] = told.number(number, p);
            after[done] = v;
            done++;
            kept = done;
            told.setNumber(number, p, v);
        }

        private void forgetsOldest() {
            System.arraycopy(person, 1, person, 0, MOST - 1);
            System.arraycopy(what, 1, what, 0, MOST - 1);
            System.arraycopy(before, 1, before, 0, MOST - 1);
            System.arraycopy(after, 1, after, 0, MOST - 1);
            done = MOST - 1;
        }

        int undoes() {
            if (done > 0) {
                done--;
                told.setNumber(what[done], person[done], before[done]);
            }
            return done;
        }

        int redoes() {
            if (done < kept) {
                told.setNumber(what[done], person[done], after[done]);
                done++;
            }
            return kept - done;
        }
    }

    /** BODIES of KINDS, and their acts: a KIND without a body of its own takes that of the next above. */
    private static final class Acts {
        static final int MOST = 50;
        private static final int KINDS = 8, ACTS = 4, TRACED = 24, DEEPEST = 40;
        private static final int WAITS = 0, COUNTS = 1, OPENS = 2, TELLS = 3;
        private static final int[] ABOVE = {-1, 0, 0, 2, 1, 3, 0, 4};
        /** By KIND: the numbers of its bodies for waits, counts, opens, tells; 0: none. */
        private static final int[] BODY = {
            1, 10, 11, 2,
            20, 0, 0, 0,
            0, 30, 0, 0,
            0, 41, 40, 0,
            0, 0, 50, 0,
            0, 0, 0, 60,
            70, 0, 0, 0,
            0, 80, 0, 81};

        private final int[] kinds = new int[MOST];
        private int count = 0;
        private final int[] trace = new int[TRACED];
        private int ran = 0;
        private int own = 0;
        private int number = 0;

        static boolean isKind(int kind) {
            return kind >= 0 && kind < KINDS;
        }

        static boolean isUnder(int kind, int k) {
            int at = kind;
            for (int steps = 0; steps < KINDS && isKind(at); steps++) {
                if (at == k) return true;
                at = ABOVE[at];
            }
            return false;
        }

        int size() {
            return count;
        }

        boolean has(int body) {
            return body >= 0 && body < count;
        }

        int kindOf(int body) {
            return has(body) ? kinds[body] : -1;
        }

        int joins(int kind) {
            if (count >= MOST) return FULL;
            kinds[count] = kind;
            count++;
            return count - 1;
        }

        int ranLast() {
            return ran;
        }

        int traced(int i) {
            return i >= 0 && i < ran && i < TRACED ? trace[i] : BAD;
        }

        int does(int body, int act, int x) {
            ran = 0;
            if (!has(body) || act < 0 || act >= ACTS) return 0;
            own = kinds[body];
            number = body;
            return plays(own, act, x, 0);
        }

        /** The KIND, from one on upward, that has a body for an act. */
        private static int holder(int from, int act) {
            int kind = from;
            for (int steps = 0; steps < KINDS && isKind(kind); steps++) {
                if (BODY[kind * ACTS + act] != 0) return kind;
                kind = ABOVE[kind];
            }
            return 0;
        }

        private void notes(int body) {
            if (ran < TRACED) trace[ran] = body;
            ran++;
        }

        private int plays(int from, int act, int x, int depth) {
            if (depth > DEEPEST) return 0;
            int kind = holder(from, act);
            int above = ABOVE[kind];
            int body = BODY[kind * ACTS + act];
            int next = depth + 1;
            notes(body);
            switch (body) {
                case 1: return x + number;
                case 2: return plays(own, COUNTS, x, next) - plays(own, OPENS, 1, next);
                case 10: return plays(own, WAITS, x, next) * 2;
                case 11: return x ^ number;
                case 20: return plays(above, WAITS, x, next) + 3;
                case 30: return -plays(above, COUNTS, x, next);
                case 40: return plays(above, OPENS, x, next) * 3;
                case 41: return plays(above, COUNTS, x + 1, next);
                case 50: return plays(above, OPENS, x, next) - plays(own, WAITS, 2, next);
                case 60: return plays(above, TELLS, x, next) ^ 5;
                case 70: return plays(above, WAITS, x, next) * 2;
                case 80: return plays(above, COUNTS, x, next) + plays(own, OPENS, 2, next);
                case 81: return plays(above, TELLS, x, next) - 1;
                default: return 0;
            }
        }
    }

    /** SHELVES: each holds nothing, a BODY's number, or a ROW. */
    private static final class Shelves {
        static final int ROOM = 60;
        static final int BYTES = 0, SHORTS = 1, INTS = 2, BOOLEANS = 4;
        static final int NO_BODY = -1;
        private static final int SHELVES = 6;
        private static final int NO_ROW = -1;

        private final int[] bodies = new int[SHELVES];
        private final int[] sorts = new int[SHELVES];
        private final int[] sizes = new int[SHELVES];
        private final long[] cells = new long[SHELVES * ROOM];

        Shelves() {
            Arrays.fill(bodies, NO_BODY);
            Arrays.fill(sorts, NO_ROW);
        }

        static boolean isShelf(int shelf) {
            return shelf >= 0 && shelf < SHELVES;
        }

        boolean isBare(int shelf) {
            return isShelf(shelf) && bodies[shelf] == NO_BODY && sorts[shelf] == NO_ROW;
        }

        int bodyOn(int shelf) {
            return isShelf(shelf) ? bodies[shelf] : NO_BODY;
        }

        boolean holdsRow(int shelf, int sort) {
            return isShelf(shelf) && sorts[shelf] == sort;
        }

        boolean holdsLikeRows(int shelf, int other) {
            return isShelf(shelf) && isShelf(other) && sorts[shelf] != NO_ROW && sorts[shelf] == sorts[other];
        }

        int sizeOf(int shelf) {
            return isShelf(shelf) && sorts[shelf] != NO_ROW ? sizes[shelf] : 0;
        }

        boolean isPlace(int shelf, int i) {
            return i >= 0 && i < sizeOf(shelf);
        }

        /** By a difference, since the sum of a place and a number may wrap. */
        boolean isSpan(int shelf, int i, int n) {
            int size = sizeOf(shelf);
            return n >= 0 && i >= 0 && i <= size && n <= size - i;
        }

        void holds(int shelf, int body) {
            if (!isShelf(shelf)) return;
            bodies[shelf] = body;
            sorts[shelf] = NO_ROW;
        }

        void lays(int shelf, int sort, int n) {
            if (!isShelf(shelf) || n < 0 || n > ROOM) return;
            bodies[shelf] = NO_BODY;
            sorts[shelf] = sort;
            sizes[shelf] = n;
            Arrays.fill(cells, shelf * ROOM, shelf * ROOM + n, 0L);
        }

        long cell(int shelf, int i) {
            return isPlace(shelf, i) ? cells[shelf * ROOM + i] : 0L;
        }

        void sets(int shelf, int i, long v) {
            if (isPlace(shelf, i)) cells[shelf * ROOM + i] = narrowed(sorts[shelf], v);
        }

        private static long narrowed(int sort, long v) {
            switch (sort) {
                case BYTES: return (byte) v;
                case SHORTS: return (short) v;
                case INTS: return (int) v;
                case BOOLEANS: return v != 0L ? 1L : 0L;
                default: return v;
            }
        }

        void moves(int shelf, int i, int other, int j, int n) {
            if (isSpan(shelf, i, n) && isSpan(other, j, n)) {
                System.arraycopy(cells, shelf * ROOM + i, cells, other * ROOM + j, n);
            }
        }
    }
}
