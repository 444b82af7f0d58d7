import java.util.Arrays;

/** A plate that rings as it lies down. The promises, and the words in capitals, stand in DOC.md. */
public final class PlateRings {
    private static final int NOBODY = -1;
    private static final int OTHER = -2;
    private static final int STATE = -3;
    private static final int BELOW = -4;
    private static final int ROOM = -6;
    private static final int NONE = -9;
    private static final int FAULTY = -20;

    private static final int MOST_BYTES = 20;
    private static final int MOST_BYTES_AT_ONCE = 8;
    private static final int MOST_PLATES = 6;
    private static final int MOST_LOSSES = 8;
    private static final int MOST_FLOORS = 4;
    private static final int MOST_LEGS = 4;
    private static final int MOST_TONES = 24;
    private static final int MOST_TENTHS = 100;
    private static final int MOST_BRACKETS = 4;
    private static final int MOST_DIGITS = 3;

    private static final int MOST_WEIGHT = 999;
    private static final int MOST_WIDTH = 99;
    private static final int MOST_LEAN = 9000;
    private static final int MOST_TICKS = 9999;
    private static final int MOST_TAKEN = 9999;
    private static final int MOST_TONE = 99999;
    private static final int MOST_SLIP = 999;
    private static final int MOST_TICKS_AT_ONCE = 999;
    private static final int MOST_DRAWS = 30;
    private static final int NINE = 9;
    private static final int RING_HOLE = 5;
    private static final int SLIDING_TONE = 100;
    private static final int NOT_HEARD = -1;
    private static final int NOT_COME_TO = 99999;
    private static final int TENTH_TICKS = 10;
    private static final int LAST_STAGGER = 990;

    private static final int KIND_AIR = 0;
    private static final int KIND_SLIDING = 2;
    private static final int KIND_LEAPING = 3;
    private static final int KIND_FLOORED = 4;
    private static final int KIND_EARLY = 6;

    private static final int GOES_ON = 0;
    private static final int LIES = 1;
    private static final int LEAPS = 2;
    private static final int STANDS = 3;
    private static final int NO_FURTHER = 4;

    private static final int TRY_AIR = 1;
    private static final int TRY_PLATE = 2;
    private static final int TRY_FLOOR = 3;
    private static final int TRY_HALF = 4;

    private static final String FIELD_NAMES = "ltwdebfk";
    private static final int FIELD_COUNT = 8;
    private static final int LEAN = 0;
    private static final int TONE = 1;
    private static final int WEIGHT = 2;
    private static final int WIDTH = 3;
    private static final int EDGE = 4;
    private static final int DISH = 5;
    private static final int HARD = 6;
    private static final int TILT = 7;

    /** A LAW's code from here on names a field; below stand its numbers, and below 0 its signs. */
    private static final int FIRST_FIELD = 1000;
    private static final int EVERY_LOSS = -1;
    private static final int WITHOUT_SIGN = 0x7fffffff;
    private static final int[] LONG_STEPS = {10, 5, 2};

    private final Text text;
    private final int[] refusals;
    private final Bench bench;
    private final Bench kept;
    private final Mind mind;
    private boolean imageTaken;

    public PlateRings() {
        text = new Text();
        refusals = new int[7];
        bench = new Bench();
        kept = new Bench();
        mind = new Mind(bench);
        imageTaken = false;
    }

    public int feed(int n, long bytes) {
        if (n < 1) {
            return refuse(BELOW);
        }
        if (n > MOST_BYTES_AT_ONCE || text.length + n > MOST_BYTES) {
            return refuse(ROOM);
        }
        text.append(n, bytes);
        return text.length;
    }

    public int plate() {
        if (bench.plateCount >= MOST_PLATES) {
            return refuse(ROOM);
        }
        Plate read = text.readPlate();
        text.length = 0;
        return read == null ? FAULTY - text.fault : bench.addPlate(read);
    }

    public int plateOf(int plate, int what) {
        Plate one = bench.plateAt(plate);
        if (one == null) {
            return refuse(NOBODY);
        }
        switch (what) {
            case 0: return one.weight;
            case 1: return one.width;
            case 2: return one.edge;
            case 3: return one.hole;
            case 4: return one.dish;
            default: return refuse(OTHER);
        }
    }

    public int loss(int kind, int from, int to) {
        if (kind < KIND_AIR || kind > KIND_EARLY) {
            return refuse(NOBODY);
        }
        if (from < 0 || to < 0) {
            return refuse(BELOW);
        }
        if (from > MOST_TICKS || to > MOST_TICKS || bench.lossCount >= MOST_LOSSES) {
            return refuse(ROOM);
        }
        if (kind == KIND_EARLY && from > to) {
            return refuse(STATE);
        }
        int[] law = text.readLaw();
        text.length = 0;
        return law == null ? FAULTY - text.fault : bench.addLoss(new Loss(kind, from, to, law));
    }

    public int lossOf(int loss, int what) {
        Loss one = bench.lossAt(loss);
        if (one == null) {
            return refuse(NOBODY);
        }
        switch (what) {
            case 0: return one.kind;
            case 1: return one.from;
            case 2: return one.to;
            case 3: return bench.spun.tookOf(loss);
            default: return refuse(OTHER);
        }
    }

    public int floor(int floor, int what, int v) {
        if (!isFloor(floor)) {
            return refuse(NOBODY);
        }
        if (!isZeroOrOne(what)) {
            return refuse(OTHER);
        }
        if (v < 0) {
            return refuse(BELOW);
        }
        if (v > NINE) {
            return refuse(ROOM);
        }
        int[] row = what == 0 ? bench.hard : bench.tilt;
        int was = row[floor];
        row[floor] = v;
        return was;
    }

    public int air(boolean is) {
        int changes = bench.air == is ? 0 : 1;
        bench.air = is;
        return changes;
    }

    public int toneAt(int plate, int lean) {
        Plate one = bench.plateAt(plate);
        if (one == null) {
            return refuse(NOBODY);
        }
        int wrong = leanRefusal(lean);
        return wrong != 0 ? refuse(wrong) : toneOf(lean, one.width, one.dish);
    }

    public int takes(int loss, int plate, int lean, int floor, int tick) {
        Loss one = bench.lossAt(loss);
        Plate of = bench.plateAt(plate);
        if (one == null || of == null || !isFloor(floor)) {
            return refuse(NOBODY);
        }
        if (lean < 0 || tick < 0) {
            return refuse(BELOW);
        }
        if (lean > MOST_LEAN || tick > MOST_TICKS) {
            return refuse(ROOM);
        }
        mind.begin(of, lean, floor);
        mind.tick = tick;
        return mind.takenBy(one);
    }

    public int spin(int plate, int lean, int floor) {
        Plate one = bench.plateAt(plate);
        if (one == null || !isFloor(floor)) {
            return refuse(NOBODY);
        }
        int wrong = leanRefusal(lean);
        if (wrong != 0) {
            return refuse(wrong);
        }
        int tone = toneOf(lean, one.width, one.dish);
        bench.spun.start(plate, lean, floor, tone);
        return tone;
    }

    public int tick(int n) {
        Spun spun = bench.spun;
        if (!spun.spins) {
            return refuse(STATE);
        }
        if (n < 1) {
            return refuse(BELOW);
        }
        if (n > MOST_TICKS_AT_ONCE) {
            return refuse(ROOM);
        }
        mind.begin(bench.plateAt(spun.number), spun.lean, spun.floor);
        mind.tick = spun.tick;
        for (int i = 0; i < n && spun.end == GOES_ON; i++) {
            mind.advance();
            spun.follow(mind);
        }
        return spun.end;
    }

    public int state(int what) {
        Spun spun = bench.spun;
        if (!spun.spins) {
            return refuse(STATE);
        }
        switch (what) {
            case 0: return spun.number;
            case 1: return spun.lean;
            case 2: return spun.tone;
            case 3: return spun.tick;
            case 4: return spun.end;
            case 5: return spun.floor;
            case 6: return spun.tenthCount;
            default: return refuse(OTHER);
        }
    }

    public long rolled() {
        return bench.spun.spins ? bench.spun.rolledSoFar : refuse(STATE);
    }

    public int tenth(int i, int what) {
        if (!isZeroOrOne(what)) {
            return refuse(OTHER);
        }
        if (!bench.spun.spins) {
            return refuse(STATE);
        }
        if (i < 0) {
            return refuse(BELOW);
        }
        return bench.spun.tenthOf(i, what);
    }

    public int lasts(int plate, int lean, int floor, int what) {
        Plate one = bench.plateAt(plate);
        if (one == null || !isFloor(floor)) {
            return refuse(NOBODY);
        }
        if (!isZeroOrOne(what)) {
            return refuse(OTHER);
        }
        int wrong = leanRefusal(lean);
        if (wrong != 0) {
            return refuse(wrong);
        }
        int ticks = ticksOf(one, lean, floor);
        return what == 0 ? ticks : mind.end;
    }

    public int rules(int tick) {
        if (!bench.spun.spins) {
            return refuse(STATE);
        }
        if (tick < 0) {
            return refuse(BELOW);
        }
        if (tick > MOST_TICKS) {
            return refuse(ROOM);
        }
        beginAgain(EVERY_LOSS);
        mind.runTo(tick);
        if (mind.end != GOES_ON) {
            return NONE;
        }
        mind.advance();
        return mind.ruler();
    }

    public int passes() {
        if (!bench.spun.spins) {
            return refuse(STATE);
        }
        beginAgain(EVERY_LOSS);
        mind.advance();
        int first = mind.ruler();
        for (int tick = 1; tick < MOST_TICKS && mind.end == GOES_ON; tick++) {
            mind.advance();
            int ruler = mind.ruler();
            if (ruler != NONE && ruler != first) {
                return tick;
            }
        }
        return NONE;
    }

    public int heard(int tone) {
        if (tone < NOT_HEARD) {
            return refuse(BELOW);
        }
        if (tone > MOST_TONE || bench.row.length >= MOST_TONES) {
            return refuse(ROOM);
        }
        return bench.row.append(tone);
    }

    public int hush() {
        int had = bench.row.length;
        bench.row.length = 0;
        return had;
    }

    public int slip(int v) {
        if (v < 0) {
            return refuse(BELOW);
        }
        if (v > MOST_SLIP) {
            return refuse(ROOM);
        }
        int was = bench.row.mayBeOff;
        bench.row.mayBeOff = v;
        return was;
    }

    public int firstOff(int losses) {
        if (!isSet(losses)) {
            return refuse(NOBODY);
        }
        if (!bench.spun.spins) {
            return refuse(STATE);
        }
        beginAgain(losses);
        return firstMisfit();
    }

    public int supposed(int what) {
        if (!isZeroOrOne(what)) {
            return refuse(OTHER);
        }
        if (!bench.spun.spins) {
            return refuse(STATE);
        }
        int fitting = 0;
        int fewest = NONE;
        for (int set = 0; set < 1 << MOST_LOSSES && isSet(set); set++) {
            beginAgain(set);
            if (firstMisfit() == NONE) {
                fitting++;
                if (fewest == NONE || Integer.bitCount(set) < Integer.bitCount(fewest)) {
                    fewest = set;
                }
            }
        }
        return what == 0 ? fitting : fewest;
    }

    public int ahead(int attempt, int losses, int told) {
        if (!isSet(losses)
                || attempt == TRY_PLATE && bench.plateAt(told) == null
                || attempt == TRY_FLOOR && !isFloor(told)) {
            return refuse(NOBODY);
        }
        if (attempt < 0 || attempt > TRY_HALF) {
            return refuse(OTHER);
        }
        if (!bench.spun.spins) {
            return refuse(STATE);
        }
        return ticksAhead(attempt, losses, told);
    }

    public int parts(int one, int other, int plate, int floor, int what) {
        if (!isSet(one) || !isSet(other) || bench.plateAt(plate) == null || !isFloor(floor)) {
            return refuse(NOBODY);
        }
        if (!isZeroOrOne(what)) {
            return refuse(OTHER);
        }
        if (!bench.spun.spins) {
            return refuse(STATE);
        }
        int best = 0;
        int most = -1;
        for (int attempt = 0; attempt <= TRY_HALF; attempt++) {
            int told = attempt == TRY_PLATE ? plate : floor;
            int unlike = Math.abs(ticksAhead(attempt, one, told) - ticksAhead(attempt, other, told));
            if (unlike > most) {
                most = unlike;
                best = attempt;
            }
        }
        return what == 0 ? best : most;
    }

    public int longest(int weight, int lean, int floor) {
        if (!isFloor(floor)) {
            return refuse(NOBODY);
        }
        if (weight < 0 || lean < 0) {
            return refuse(BELOW);
        }
        if (weight > MOST_WEIGHT || lean > MOST_LEAN) {
            return refuse(ROOM);
        }
        int best = NONE;
        int most = -1;
        for (int i = 0; i < MOST_PLATES; i++) {
            Plate one = bench.plateAt(i);
            if (one != null && one.weight <= weight) {
                int ticks = ticksOf(one, lean, floor);
                if (ticks > most) {
                    most = ticks;
                    best = i;
                }
            }
        }
        return best;
    }

    public int bestFor(int plate, int lean, int what) {
        Plate one = bench.plateAt(plate);
        if (one == null) {
            return refuse(NOBODY);
        }
        if (!isZeroOrOne(what)) {
            return refuse(OTHER);
        }
        int wrong = leanRefusal(lean);
        if (wrong != 0) {
            return refuse(wrong);
        }
        return what == 0 ? bestFloor(one, lean) : bestEdge(one, lean);
    }

    public int ear(int what) {
        if (what < 0 || what > 2) {
            return refuse(OTHER);
        }
        if (!bench.spun.spins) {
            return refuse(STATE);
        }
        int best = NONE;
        int least = NONE;
        for (int i = 0; i < MOST_PLATES; i++) {
            Plate one = bench.plateAt(i);
            if (one != null) {
                int sum = offInAll(one);
                if (best == NONE || sum < least) {
                    least = sum;
                    best = i;
                }
            }
        }
        if (what != 1 || best == NONE) {
            return what == 0 ? best : least;
        }
        return least > bench.row.mayBeOff * bench.row.heardOnes() ? 1 : 0;
    }

    public int stagger(int loss) {
        Loss one = bench.lossAt(loss);
        if (one == null) {
            return refuse(NOBODY);
        }
        if (!bench.spun.spins) {
            return refuse(STATE);
        }
        for (int from = 0; from <= LAST_STAGGER; from += TENTH_TICKS) {
            beginAgain(EVERY_LOSS);
            mind.loseMore(one, from);
            if (firstMisfit() == NONE) {
                return from;
            }
        }
        return NONE;
    }

    public int trust(int ticks) {
        if (!bench.spun.spins) {
            return refuse(STATE);
        }
        if (ticks < 0) {
            return refuse(BELOW);
        }
        if (ticks > MOST_TICKS) {
            return refuse(ROOM);
        }
        int plainly = ticksByStep(1);
        for (int step : LONG_STEPS) {
            if (Math.abs(ticksByStep(step) - plainly) <= ticks) {
                return step;
            }
        }
        return 1;
    }

    public int leg(int floor, int ticks) {
        if (!isFloor(floor)) {
            return refuse(NOBODY);
        }
        if (ticks < 1) {
            return refuse(BELOW);
        }
        if (ticks > MOST_TICKS_AT_ONCE || bench.legCount >= MOST_LEGS) {
            return refuse(ROOM);
        }
        return bench.addLeg(floor, ticks);
    }

    public int legs(int plate, int lean) {
        Plate one = bench.plateAt(plate);
        if (one == null) {
            return refuse(NOBODY);
        }
        int wrong = leanRefusal(lean);
        if (wrong != 0) {
            return refuse(wrong);
        }
        if (bench.legCount == 0) {
            return refuse(STATE);
        }
        int ticks = ticksByLegs(one, lean);
        bench.legCount = 0;
        return ticks;
    }

    public int draws(int plate, int floor, int n, int z, int m, int what) {
        Plate one = bench.plateAt(plate);
        if (one == null || !isFloor(floor)) {
            return refuse(NOBODY);
        }
        if (!isZeroOrOne(what)) {
            return refuse(OTHER);
        }
        if (n < 1 || m < 0) {
            return refuse(BELOW);
        }
        if (n > MOST_DRAWS || m > MOST_TICKS) {
            return refuse(ROOM);
        }
        int seed = z;
        int found = 0;
        for (int i = 0; i < n; i++) {
            seed = seed * 1103515245 + 12345;
            int lean = 1 + (seed & WITHOUT_SIGN) / 65536 % MOST_LEAN;
            int ticks = ticksOf(one, lean, floor);
            if (what == 0 ? ticks >= m : mind.end == LEAPS) {
                found++;
            }
        }
        return found;
    }

    public int image() {
        kept.copyFrom(bench);
        imageTaken = true;
        return bench.plateCount;
    }

    public int restore() {
        if (!imageTaken) {
            return refuse(STATE);
        }
        bench.copyFrom(kept);
        return bench.plateCount;
    }

    public int count(int what) {
        switch (what) {
            case 0: return bench.plateCount;
            case 1: return bench.lossCount;
            case 2: return bench.row.length;
            case 3: return bench.row.heardOnes();
            case 4: return bench.legCount;
            case 5: return text.length;
            case 6: return bench.air ? 1 : 0;
            default: return refusedSoFar(what - 10);
        }
    }

    private int refuse(int number) {
        int place = -number;
        if (place >= 1 && place < refusals.length) {
            refusals[place]++;
        }
        return number;
    }

    private int refusedSoFar(int place) {
        return place >= 1 && place < refusals.length ? refusals[place] : NONE;
    }

    private static boolean isFloor(int floor) {
        return floor >= 0 && floor < MOST_FLOORS;
    }

    private static boolean isZeroOrOne(int what) {
        return what == 0 || what == 1;
    }

    private boolean isSet(int losses) {
        return losses >= 0 && losses < 1 << bench.lossCount;
    }

    /** 0 if the LEAN can be, else the refusal. */
    private static int leanRefusal(int lean) {
        if (lean < 0) {
            return BELOW;
        }
        return lean > MOST_LEAN ? ROOM : 0;
    }

    private static int toneOf(int lean, int width, int dish) {
        int slow = lean + 10;
        int wide = 10 + width / 10;
        return slow <= 0 || wide <= 0 ? 0 : 9000 / slow * (100 + dish) / wide;
    }

    /** THE PLATE's beginning comes to mind, with a set of LOSSES. */
    private void beginAgain(int losses) {
        Spun spun = bench.spun;
        mind.begin(bench.plateAt(spun.number), spun.firstLean, spun.floor);
        mind.set = losses;
    }

    /** LASTS; how it ENDS stands in mind behind it. */
    private int ticksOf(Plate one, int lean, int floor) {
        mind.begin(one, lean, floor);
        mind.runTo(MOST_TICKS);
        return mind.tick;
    }

    private int ticksAhead(int attempt, int losses, int told) {
        Spun spun = bench.spun;
        int number = attempt == TRY_PLATE ? told : spun.number;
        int floor = attempt == TRY_FLOOR ? told : spun.floor;
        int lean = attempt == TRY_HALF ? spun.firstLean / 2 : spun.firstLean;
        mind.begin(bench.plateAt(number), lean, floor);
        mind.set = losses;
        mind.air = bench.air != (attempt == TRY_AIR);
        mind.runTo(MOST_TICKS);
        return mind.tick;
    }

    private int ticksByStep(int step) {
        beginAgain(EVERY_LOSS);
        mind.step = step;
        mind.runTo(MOST_TICKS);
        return mind.tick;
    }

    private int ticksByLegs(Plate one, int lean) {
        mind.begin(one, lean, 0);
        int until = 0;
        for (int i = 0; i < bench.legCount && i < MOST_LEGS; i++) {
            boolean isLast = i == bench.legCount - 1;
            until = isLast ? MOST_TICKS : until + bench.legTicks[i];
            mind.layOn(bench.legFloors[i]);
            mind.runTo(until);
        }
        return mind.tick;
    }

    private int bestFloor(Plate one, int lean) {
        int best = 0;
        int most = -1;
        for (int floor = 0; floor < MOST_FLOORS; floor++) {
            int ticks = ticksOf(one, lean, floor);
            if (ticks > most) {
                most = ticks;
                best = floor;
            }
        }
        return best;
    }

    private int bestEdge(Plate one, int lean) {
        int best = 0;
        int most = -1;
        for (int edge = 0; edge <= NINE; edge++) {
            mind.begin(one, lean, 0);
            mind.takeEdge(edge);
            mind.runTo(MOST_TICKS);
            if (mind.tick > most) {
                most = mind.tick;
                best = edge;
            }
        }
        return best;
    }

    /** The first TENTH heard that does not fit what has been begun in mind. */
    private int firstMisfit() {
        Row row = bench.row;
        for (int i = 0; i < row.length; i++) {
            if (row.isHeard(i) && mind.offAt(i) > row.mayBeOff) {
                return i;
            }
        }
        return NONE;
    }

    /** How far all tones heard are off if it was this PLATE. */
    private int offInAll(Plate one) {
        Row row = bench.row;
        mind.begin(one, bench.spun.firstLean, bench.spun.floor);
        int sum = 0;
        for (int i = 0; i < row.length; i++) {
            if (row.isHeard(i)) {
                sum += mind.offAt(i);
            }
        }
        return sum;
    }

    private static final class Plate {
        final int weight;
        final int width;
        final int edge;
        final int hole;
        final int dish;

        Plate(int weight, int width, int edge, int hole, int dish) {
            this.weight = weight;
            this.width = width;
            this.edge = edge;
            this.hole = hole;
            this.dish = dish;
        }
    }

    private static final class Loss {
        final int kind;
        final int from;
        final int to;
        /** The LAW, its signs behind what they join. */
        private final int[] law;
        private final int[] stack;

        Loss(int kind, int from, int to, int[] law) {
            this.kind = kind;
            this.from = from;
            this.to = to;
            this.law = law;
            this.stack = new int[MOST_BYTES];
        }

        int byLaw(int[] fields) {
            int top = -1;
            for (int code : law) {
                if (code < 0) {
                    if (top >= 1 && top < stack.length) {
                        top--;
                        stack[top] = joined(-code, stack[top], stack[top + 1]);
                    }
                } else if (top + 1 < stack.length) {
                    top++;
                    int field = code - FIRST_FIELD;
                    stack[top] = field >= 0 && field < fields.length ? fields[field] : code;
                }
            }
            return Math.max(0, Math.min(MOST_TAKEN, stack[0]));
        }

        private static int joined(int sign, int left, int right) {
            switch (sign) {
                case '+': return left + right;
                case '-': return left - right;
                case '*': return left * right;
                default: return right == 0 ? 0 : left / right;
            }
        }
    }

    /** The TEXT, and how it is read. */
    private static final class Text {
        private static final int NO_FAULT = -1;
        private static final int END = -1;

        private final int[] bytes = new int[MOST_BYTES];
        private final int[] codes = new int[MOST_BYTES];
        int length;
        int fault;
        private int place;
        private int codeCount;

        void append(int n, long more) {
            for (int i = 0; i < n && length >= 0 && length < bytes.length; i++) {
                bytes[length] = (int) (more >>> 8 * i & 255);
                length++;
            }
        }

        /** null if there is a FAULT. */
        Plate readPlate() {
            begin();
            int weight = readPart('w', 1, MOST_WEIGHT);
            int width = readPart('d', 1, MOST_WIDTH);
            int edge = next() == 'e' ? readPart('e', 0, NINE) : 0;
            int hole = next() == 'h' ? readPart('h', 0, NINE) : 0;
            int dish = next() == 'b' ? readPart('b', 0, NINE) : 0;
            expectEnd();
            return fault == NO_FAULT ? new Plate(weight, width, edge, hole, dish) : null;
        }

        /** null if there is a FAULT. */
        int[] readLaw() {
            begin();
            codeCount = 0;
            readSum(0);
            expectEnd();
            return fault == NO_FAULT ? Arrays.copyOf(codes, codeCount) : null;
        }

        private void begin() {
            place = 0;
            fault = NO_FAULT;
        }

        /** Nothing is read behind a FAULT, so that the first one stays. */
        private int next() {
            boolean more = fault == NO_FAULT && place >= 0 && place < length && place < bytes.length;
            return more ? bytes[place] : END;
        }

        private void failAt(int where) {
            if (fault == NO_FAULT) {
                fault = where;
            }
        }

        private void expect(int sign) {
            if (next() == sign) {
                place++;
            } else {
                failAt(place);
            }
        }

        private void expectEnd() {
            if (next() != END) {
                failAt(place);
            }
        }

        private int readPart(int name, int least, int greatest) {
            expect(name);
            return readNumber(least, greatest);
        }

        private boolean isAtDigit() {
            return next() >= '0' && next() <= '9';
        }

        private int readNumber(int least, int greatest) {
            int first = place;
            int value = 0;
            int digits = 0;
            while (digits < MOST_DIGITS && isAtDigit() && (digits == 0 || value > 0)) {
                value = value * 10 + next() - '0';
                place++;
                digits++;
            }
            if (digits == 0 || value < least || value > greatest) {
                failAt(first);
            }
            return value;
        }

        private void readSum(int depth) {
            readProduct(depth);
            for (int i = 0; i < MOST_BYTES && (next() == '+' || next() == '-'); i++) {
                int sign = next();
                place++;
                readProduct(depth);
                write(-sign);
            }
        }

        private void readProduct(int depth) {
            readAtom(depth);
            for (int i = 0; i < MOST_BYTES && (next() == '*' || next() == '/'); i++) {
                int sign = next();
                place++;
                readAtom(depth);
                write(-sign);
            }
        }

        private void readAtom(int depth) {
            if (next() == '(') {
                readBracket(depth);
            } else if (isAtDigit()) {
                write(readNumber(0, FIRST_FIELD - 1));
            } else {
                readField();
            }
        }

        private void readBracket(int depth) {
            if (depth >= MOST_BRACKETS) {
                failAt(place);
                return;
            }
            place++;
            readSum(depth + 1);
            expect(')');
        }

        private void readField() {
            int field = next() == END ? -1 : FIELD_NAMES.indexOf((char) next());
            if (field < 0) {
                failAt(place);
                return;
            }
            write(FIRST_FIELD + field);
            place++;
        }

        private void write(int code) {
            if (codeCount >= 0 && codeCount < codes.length) {
                codes[codeCount] = code;
                codeCount++;
            }
        }
    }

    /** The ROW OF TONES with its SLIP. */
    private static final class Row {
        private final int[] tones = new int[MOST_TONES];
        int length;
        int mayBeOff;

        int append(int tone) {
            if (length >= 0 && length < tones.length) {
                tones[length] = tone;
                length++;
            }
            return length;
        }

        /** What was heard at a TENTH; NOT_HEARD where the ROW has none. */
        int toneOfTenth(int i) {
            return i >= 0 && i < length && i < tones.length ? tones[i] : NOT_HEARD;
        }

        boolean isHeard(int i) {
            return toneOfTenth(i) != NOT_HEARD;
        }

        int heardOnes() {
            int ones = 0;
            for (int i = 0; i < length; i++) {
                if (isHeard(i)) {
                    ones++;
                }
            }
            return ones;
        }

        void copyFrom(Row other) {
            System.arraycopy(other.tones, 0, tones, 0, MOST_TONES);
            length = other.length;
            mayBeOff = other.mayBeOff;
        }
    }

    /** THE PLATE that spins, as far as it has come. */
    private static final class Spun {
        boolean spins;
        int number;
        int firstLean;
        int floor;
        int lean;
        int tone;
        int tick;
        int end;
        long rolledSoFar;
        int tenthCount;
        private final int[] took = new int[MOST_LOSSES];
        private final int[] tenthLeans = new int[MOST_TENTHS];
        private final int[] tenthTones = new int[MOST_TENTHS];

        void start(int plate, int fromLean, int onFloor, int itsTone) {
            spins = true;
            number = plate;
            firstLean = fromLean;
            floor = onFloor;
            lean = fromLean;
            tone = itsTone;
            tick = 0;
            end = GOES_ON;
            rolledSoFar = 0;
            Arrays.fill(took, 0);
            tenthCount = 0;
            keepTenth();
        }

        /** One TICK more, as it went in mind. */
        void follow(Mind mind) {
            rolledSoFar += tone;
            countParts(mind.taken);
            lean = mind.lean;
            tone = mind.tone;
            tick = mind.tick;
            end = mind.end;
            if (tick % TENTH_TICKS == 0) {
                keepTenth();
            }
        }

        private void countParts(int[] taken) {
            int left = lean;
            for (int i = 0; i < took.length && i < taken.length; i++) {
                int part = Math.min(left, taken[i]);
                took[i] += part;
                left -= part;
            }
        }

        private void keepTenth() {
            if (tenthCount >= 0 && tenthCount < MOST_TENTHS) {
                tenthLeans[tenthCount] = lean;
                tenthTones[tenthCount] = tone;
                tenthCount++;
            }
        }

        int tenthOf(int i, int what) {
            if (i < 0 || i >= tenthCount || i >= MOST_TENTHS) {
                return NONE;
            }
            return what == 0 ? tenthLeans[i] : tenthTones[i];
        }

        int tookOf(int loss) {
            return loss >= 0 && loss < took.length ? took[loss] : 0;
        }

        void copyFrom(Spun other) {
            spins = other.spins;
            number = other.number;
            firstLean = other.firstLean;
            floor = other.floor;
            lean = other.lean;
            tone = other.tone;
            tick = other.tick;
            end = other.end;
            rolledSoFar = other.rolledSoFar;
            tenthCount = other.tenthCount;
            System.arraycopy(other.took, 0, took, 0, MOST_LOSSES);
            System.arraycopy(other.tenthLeans, 0, tenthLeans, 0, MOST_TENTHS);
            System.arraycopy(other.tenthTones, 0, tenthTones, 0, MOST_TENTHS);
        }
    }

    /** All that there is, but THE IMAGE, the TEXT, REFUSALS. */
    private static final class Bench {
        private final Plate[] plates = new Plate[MOST_PLATES];
        private final Loss[] losses = new Loss[MOST_LOSSES];
        final int[] hard = {NINE, NINE, NINE, NINE};
        final int[] tilt = new int[MOST_FLOORS];
        final int[] legFloors = new int[MOST_LEGS];
        final int[] legTicks = new int[MOST_LEGS];
        final Spun spun = new Spun();
        final Row row = new Row();
        int plateCount;
        int lossCount;
        int legCount;
        boolean air = true;

        Plate plateAt(int i) {
            return i >= 0 && i < plateCount && i < MOST_PLATES ? plates[i] : null;
        }

        Loss lossAt(int i) {
            return i >= 0 && i < lossCount && i < MOST_LOSSES ? losses[i] : null;
        }

        int addPlate(Plate one) {
            int number = plateCount;
            if (number >= 0 && number < MOST_PLATES) {
                plates[number] = one;
                plateCount++;
            }
            return number;
        }

        int addLoss(Loss one) {
            int number = lossCount;
            if (number >= 0 && number < MOST_LOSSES) {
                losses[number] = one;
                lossCount++;
            }
            return number;
        }

        int addLeg(int floor, int ticks) {
            if (legCount >= 0 && legCount < MOST_LEGS) {
                legFloors[legCount] = floor;
                legTicks[legCount] = ticks;
                legCount++;
            }
            return legCount;
        }

        /** PLATES and LOSSES never change, so both may hold the same ones. */
        void copyFrom(Bench other) {
            for (int i = 0; i < MOST_PLATES; i++) {
                plates[i] = other.plates[i];
            }
            for (int i = 0; i < MOST_LOSSES; i++) {
                losses[i] = other.losses[i];
            }
            System.arraycopy(other.hard, 0, hard, 0, MOST_FLOORS);
            System.arraycopy(other.tilt, 0, tilt, 0, MOST_FLOORS);
            System.arraycopy(other.legFloors, 0, legFloors, 0, MOST_LEGS);
            System.arraycopy(other.legTicks, 0, legTicks, 0, MOST_LEGS);
            spun.copyFrom(other.spun);
            row.copyFrom(other.row);
            plateCount = other.plateCount;
            lossCount = other.lossCount;
            legCount = other.legCount;
            air = other.air;
        }
    }

    /** A spin in mind; THE PLATE's own TICKS are reckoned here too. */
    private static final class Mind {
        private final Bench bench;
        private final int[] fields = new int[FIELD_COUNT];
        final int[] taken = new int[MOST_LOSSES];
        int lean;
        int tone;
        int tick;
        int end;
        int set;
        int step;
        boolean air;
        private boolean isRing;
        private Loss more;
        private int moreFrom;

        Mind(Bench bench) {
            this.bench = bench;
        }

        void begin(Plate one, int firstLean, int floor) {
            if (one != null) {
                fields[WEIGHT] = one.weight;
                fields[WIDTH] = one.width;
                fields[EDGE] = one.edge;
                fields[DISH] = one.dish;
                isRing = one.hole >= RING_HOLE;
            }
            layOn(floor);
            tick = 0;
            end = GOES_ON;
            set = EVERY_LOSS;
            step = 1;
            air = bench.air;
            more = null;
            leanTo(firstLean);
        }

        void layOn(int floor) {
            if (isFloor(floor)) {
                fields[HARD] = bench.hard[floor];
                fields[TILT] = bench.tilt[floor];
            }
        }

        /** Another EDGE than the PLATE's own. */
        void takeEdge(int edge) {
            fields[EDGE] = edge;
        }

        /** One EARLY LOSS more, by another's LAW. */
        void loseMore(Loss byLawOf, int from) {
            more = byLawOf;
            moreFrom = from;
        }

        private void leanTo(int newLean) {
            lean = newLean;
            tone = toneOf(lean, fields[WIDTH], fields[DISH]);
            fields[LEAN] = lean;
            fields[TONE] = tone;
        }

        void runTo(int lastTick) {
            for (int i = 0; i < MOST_TICKS && tick < lastTick && end == GOES_ON; i++) {
                advance();
            }
        }

        void advance() {
            int sum = 0;
            boolean leaps = false;
            for (int i = 0; i < MOST_LOSSES; i++) {
                Loss one = bench.lossAt(i);
                int part = one == null || (set >> i & 1) == 0 ? 0 : takenBy(one);
                taken[i] = part;
                sum += part;
                leaps |= part > 0 && one != null && one.kind == KIND_LEAPING;
            }
            if (more != null && tick >= moreFrom) {
                sum += more.byLaw(fields);
            }
            leanTo(Math.max(0, lean - sum * step));
            tick += step;
            end = endBy(sum, leaps);
        }

        private int endBy(int sum, boolean leaps) {
            if (lean == 0) {
                return LIES;
            }
            if (leaps) {
                return LEAPS;
            }
            if (sum == 0) {
                return STANDS;
            }
            return tick >= MOST_TICKS ? NO_FURTHER : GOES_ON;
        }

        /** What a LOSS takes as the PLATE leans now. */
        int takenBy(Loss one) {
            switch (one.kind) {
                case KIND_AIR:
                    return !air ? 0 : isRing ? one.byLaw(fields) / 2 : one.byLaw(fields);
                case KIND_SLIDING:
                    return tone >= SLIDING_TONE ? one.byLaw(fields) : 0;
                case KIND_LEAPING:
                    return lean < 10 * (NINE - fields[EDGE]) ? one.byLaw(fields) : 0;
                case KIND_FLOORED:
                    return one.byLaw(fields) * (NINE - fields[HARD]) / NINE;
                case KIND_EARLY:
                    return tick >= one.from && tick <= one.to ? one.byLaw(fields) : 0;
                default:
                    return one.byLaw(fields);
            }
        }

        /** The LOSS that took most in the TICK that was last reckoned. */
        int ruler() {
            int best = NONE;
            int most = 0;
            for (int i = 0; i < MOST_LOSSES; i++) {
                if (taken[i] > most) {
                    most = taken[i];
                    best = i;
                }
            }
            return best;
        }

        /** How far the tone heard at a TENTH is off; TENTHS are asked in their order. */
        int offAt(int tenth) {
            int due = tenth * TENTH_TICKS;
            runTo(due);
            return tick == due ? Math.abs(bench.row.toneOfTenth(tenth) - tone) : NOT_COME_TO;
        }
    }
}
