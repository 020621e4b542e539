import java.util.Arrays;

/**
 * Sluices of a terrace: canals that branch at gates, fields with rights and calls, crews, turns of gates,
 * accounts of all water, what would be, and orders as texts. Errors are answered by the constants.
 */
public final class SluiceTurns {
    public static final int INVALID_ARGUMENT = -1000001;
    public static final int NOT_POSSIBLE = -1000002;
    public static final int LIMIT_REACHED = -1000003;
    public static final int NOT_FOUND = -1000004;

    private static final int MAX_CANALS = 8;
    private static final int MAX_WIDTH = 500;
    private static final int MAX_SEEPAGE = 500;
    private static final int FIRST_WIDTH = 200;
    private static final int FIRST_SEEPAGE = 50;
    private static final int PLANK = 0;
    private static final int SCREW = 1;
    private static final int FLOAT = 2;
    private static final int MAX_FIELDS = 10;
    private static final int MAX_NEED = 999;
    private static final int MAX_MOUTH = 200;
    private static final int MAX_RIGHT = 99;
    private static final int NO_RIGHT = MAX_RIGHT + 1;
    private static final int ALL_KINDS_CREW = 2;
    private static final int NO_CREW = -1;
    private static final int GATES_OF_A_CREW = 2;
    private static final int MAX_TURNS = 8;
    private static final int MAX_TURN_HOURS = 20;
    private static final int MAX_BUCKETS = 999;
    private static final int MAX_HOURS = 20000;
    private static final int MAX_RUN_HOURS = 100;
    private static final int MAX_ORDER_HOURS = 10;
    private static final int MAX_LEAST_HOURS = 5;
    private static final int MAX_STATES = 4;
    private static final int MAX_TEXT = 60;
    private static final int MAX_DIGITS = 3;
    private static final int WOULD_OF_FIELD = 10;

    private static final int NO_FAULT = 0;
    private static final int NOT_OF_FORM = 1;
    private static final int OUT_OF_RANGE = 2;
    private static final int NOT_DOABLE = 3;

    private static final int FRACTION_BITS = 23;
    private static final int FLOAT_BIAS = 127;
    private static final int MAX_SHIFT = 46;

    private final Terrace now = new Terrace();
    private final Terrace trial = new Terrace();
    private final History history = new History();
    private final Orders orders = new Orders();

    public SluiceTurns() {
    }

    // ---- canals, fields, crews

    public int canal(int parent, int kind, int width, int seepage) {
        if (!now.canals.has(parent) || isOutside(kind, PLANK, FLOAT) || isOutside(width, 1, MAX_WIDTH)
                || isOutside(seepage, 0, MAX_SEEPAGE)) {
            return INVALID_ARGUMENT;
        }
        if (now.canals.size >= MAX_CANALS) {
            return LIMIT_REACHED;
        }
        history.record(now);
        return now.canals.add(parent, kind, width, seepage);
    }

    public int field(int canal, int need, int mouth, int right) {
        if (!now.canals.has(canal) || isOutside(need, 1, MAX_NEED) || isOutside(mouth, 1, MAX_MOUTH)
                || isOutside(right, 0, MAX_RIGHT)) {
            return INVALID_ARGUMENT;
        }
        if (now.fields.size >= MAX_FIELDS) {
            return LIMIT_REACHED;
        }
        history.record(now);
        return now.fields.add(canal, need, mouth, right);
    }

    public int tend(int crew, int gate) {
        if (isOutside(crew, 0, ALL_KINDS_CREW) || !now.canals.hasGate(gate)) {
            return INVALID_ARGUMENT;
        }
        if (now.canals.isTended(gate) || !tendsKind(crew, now.canals.kind[gate])) {
            return NOT_POSSIBLE;
        }
        if (now.canals.gatesOf(crew) >= GATES_OF_A_CREW) {
            return LIMIT_REACHED;
        }
        history.record(now);
        now.canals.crew[gate] = crew;
        return now.canals.gatesOf(crew);
    }

    public int leave(int gate) {
        if (!now.canals.hasGate(gate)) {
            return INVALID_ARGUMENT;
        }
        if (!now.canals.isTended(gate)) {
            return NOT_POSSIBLE;
        }
        history.record(now);
        int crew = now.canals.crew[gate];
        now.canals.crew[gate] = NO_CREW;
        return crew;
    }

    // ---- gates, calls, turns

    public int open(int gate) {
        if (!now.canals.hasGate(gate)) {
            return INVALID_ARGUMENT;
        }
        if (!now.canals.canBeOpened(gate)) {
            return NOT_POSSIBLE;
        }
        history.record(now);
        return now.canals.flipGate(gate);
    }

    public int close(int gate) {
        if (!now.canals.hasGate(gate)) {
            return INVALID_ARGUMENT;
        }
        if (!now.canals.canBeClosed(gate)) {
            return NOT_POSSIBLE;
        }
        history.record(now);
        return now.canals.flipGate(gate);
    }

    public int call(int field) {
        if (!now.fields.has(field)) {
            return INVALID_ARGUMENT;
        }
        if (!now.fields.canCall(field)) {
            return NOT_POSSIBLE;
        }
        history.record(now);
        return now.fields.beginCall(field);
    }

    public int turn(int gates, int hours) {
        if (!now.canals.areGates(gates) || isOutside(hours, 1, MAX_TURN_HOURS)) {
            return INVALID_ARGUMENT;
        }
        if (now.turns.size >= MAX_TURNS) {
            return LIMIT_REACHED;
        }
        history.record(now);
        return now.turns.add(gates, hours);
    }

    public int noTurns() {
        history.record(now);
        return now.turns.removeAll();
    }

    // ---- hours

    public int hour(int buckets) {
        if (isOutside(buckets, 0, MAX_BUCKETS)) {
            return INVALID_ARGUMENT;
        }
        if (!now.hasHoursLeft(1)) {
            return LIMIT_REACHED;
        }
        history.record(now);
        return now.passHour(buckets);
    }

    public int run(int hours, int buckets) {
        if (isOutside(hours, 1, MAX_RUN_HOURS) || isOutside(buckets, 0, MAX_BUCKETS)) {
            return INVALID_ARGUMENT;
        }
        if (!now.hasHoursLeft(hours)) {
            return LIMIT_REACHED;
        }
        history.record(now);
        return now.runHours(hours, buckets);
    }

    // ---- what there is

    public int canalOf(int canal, int what) {
        Canals canals = now.canals;
        if (!canals.has(canal)) {
            return INVALID_ARGUMENT;
        }
        switch (what) {
            case 0: return canal == 0 ? NOT_FOUND : canals.parent[canal];
            case 1: return canal == 0 ? NOT_FOUND : canals.kind[canal];
            case 2: return canals.width[canal];
            case 3: return canals.seepage[canal];
            case 4: return canal == 0 ? NOT_FOUND : asNumber(canals.isOpen(canal));
            case 5: return canals.isTended(canal) ? canals.crew[canal] : NOT_FOUND;
            case 6: return canals.below(canal);
            case 7: return canals.came[canal];
            case 8: return canals.seeped[canal];
            case 9: return canals.ranOff[canal];
            default: return INVALID_ARGUMENT;
        }
    }

    public int fieldOf(int field, int what) {
        Fields fields = now.fields;
        if (!fields.has(field)) {
            return INVALID_ARGUMENT;
        }
        switch (what) {
            case 0: return fields.canal[field];
            case 1: return fields.need[field];
            case 2: return fields.mouth[field];
            case 3: return fields.right[field];
            case 4: return fields.got[field];
            case 5: return asNumber(fields.calls(field));
            case 6:
                now.findCallsBelow();
                return asNumber(now.mayTake(field));
            case 7: return fields.wants(field) ? NOT_FOUND : fields.hourOfNeed[field];
            default: return INVALID_ARGUMENT;
        }
    }

    public int turnOf(int turn, int what) {
        if (!now.turns.has(turn)) {
            return INVALID_ARGUMENT;
        }
        switch (what) {
            case 0: return now.turns.gates[turn];
            case 1: return now.turns.hours[turn];
            default: return INVALID_ARGUMENT;
        }
    }

    public int share(int what) {
        if (isOutside(what, 0, 2)) {
            return INVALID_ARGUMENT;
        }
        if (now.letIn == 0) {
            return NOT_FOUND;
        }
        switch (what) {
            case 0: return floatBits(now.got, now.letIn);
            case 1: return floatBits(now.seeped, now.letIn);
            default: return floatBits(now.ranOff, now.letIn);
        }
    }

    // ---- what would be

    public int would(int gates, int buckets, int what) {
        boolean isOfField = what >= WOULD_OF_FIELD && now.fields.has(what - WOULD_OF_FIELD);
        if (!now.canals.areGates(gates) || isOutside(buckets, 0, MAX_BUCKETS)
                || isOutside(what, 0, 2) && !isOfField) {
            return INVALID_ARGUMENT;
        }
        trial.become(now);
        trial.canals.open = gates;
        trial.passHour(buckets);
        switch (what) {
            case 0: return trial.got - now.got;
            case 1: return trial.seeped - now.seeped;
            case 2: return trial.ranOff - now.ranOff;
            default: return gainOnTrial(what - WOULD_OF_FIELD);
        }
    }

    public int leastGates(int fields, int buckets, int hours) {
        if (!now.fields.areFields(fields) || isOutside(buckets, 0, MAX_BUCKETS)
                || isOutside(hours, 1, MAX_LEAST_HOURS)) {
            return INVALID_ARGUMENT;
        }
        int least = NOT_FOUND;
        int all = now.canals.allGates();
        for (int gates = 0; gates <= all; gates += 2) {
            boolean isFewer = least == NOT_FOUND || Integer.bitCount(gates) < Integer.bitCount(least);
            if (isFewer && wouldServe(fields, gates, buckets, hours)) {
                least = gates;
            }
        }
        return least;
    }

    public int fewestBuckets(int field) {
        if (!now.fields.has(field)) {
            return INVALID_ARGUMENT;
        }
        // what is offered beyond the width of the canal 0 stays outside and changes nothing
        for (int buckets = 0; buckets <= FIRST_WIDTH; buckets++) {
            trial.become(now);
            trial.passHour(buckets);
            if (gainOnTrial(field) > 0) {
                return buckets;
            }
        }
        return NOT_FOUND;
    }

    public int hoursFor(int buckets) {
        if (isOutside(buckets, 0, MAX_BUCKETS)) {
            return INVALID_ARGUMENT;
        }
        trial.become(now);
        for (int hours = 0; hours <= MAX_RUN_HOURS; hours++) {
            if (trial.fields.wanting() == 0) {
                return hours;
            }
            trial.runHours(1, buckets);
        }
        return NOT_FOUND;
    }

    public int rightAt(int place) {
        if (place < 0) {
            return INVALID_ARGUMENT;
        }
        int served = 0;
        for (int i = 0; i < now.fields.size; i++) {
            int field = now.fields.byRight[i];
            if (now.fields.wants(field)) {
                if (served == place) {
                    return field;
                }
                served++;
            }
        }
        return NOT_FOUND;
    }

    public int count(int what) {
        switch (what) {
            case 0: return now.canals.size;
            case 1: return now.fields.size;
            case 2: return Integer.bitCount(now.fields.wanting());
            case 3: return now.fields.calling;
            case 4: return now.canals.open;
            case 5: return now.canals.tended();
            case 6: return now.hours;
            case 7: return now.letIn;
            case 8: return now.got;
            case 9: return now.seeped;
            case 10: return now.ranOff;
            case 11: return now.turns.size;
            case 12: return now.turns.size == 0 ? NOT_FOUND : now.turns.on;
            case 13: return now.turns.gone;
            case 14: return history.size;
            case 15: return orders.length;
            default: return INVALID_ARGUMENT;
        }
    }

    public int undo() {
        if (history.size == 0) {
            return NOT_POSSIBLE;
        }
        return history.restoreLatest(now);
    }

    // ---- texts

    public int type(int character) {
        if (isOutside(character, ' ', '~')) {
            return INVALID_ARGUMENT;
        }
        if (orders.length >= MAX_TEXT) {
            return LIMIT_REACHED;
        }
        return orders.append(character);
    }

    public int clearText() {
        int length = orders.length;
        orders.length = 0;
        return length;
    }

    public int fault(int what) {
        if (isOutside(what, 0, 2)) {
            return INVALID_ARGUMENT;
        }
        trial.become(now);
        orders.carryOutToFault(trial);
        if (orders.reason == NO_FAULT) {
            return NOT_FOUND;
        }
        switch (what) {
            case 0: return orders.start;
            case 1: return orders.reason;
            default: return orders.reason == NOT_DOABLE ? NOT_FOUND : orders.cause;
        }
    }

    public int play() {
        trial.become(now);
        int got = orders.carryOutToFault(trial);
        if (orders.reason != NO_FAULT) {
            return NOT_POSSIBLE;
        }
        history.record(now);
        now.become(trial);
        return got;
    }

    // ---- helpers

    private static boolean isOutside(int number, int least, int most) {
        return number < least || number > most;
    }

    private static int asNumber(boolean truth) {
        return truth ? 1 : 0;
    }

    private static boolean tendsKind(int crew, int kind) {
        return crew == ALL_KINDS_CREW || crew == kind;
    }

    private int gainOnTrial(int field) {
        return trial.fields.got[field] - now.fields.got[field];
    }

    private boolean wouldServe(int fields, int gates, int buckets, int hours) {
        trial.become(now);
        trial.canals.open = gates;
        for (int hour = 0; hour < hours && (trial.fields.wanting() & fields) != 0; hour++) {
            trial.passHour(buckets);
        }
        return (trial.fields.wanting() & fields) == 0;
    }

    /**
     * The bits of the float that is nearest to part / whole, for 0 <= part <= whole < 2^22, made by hand:
     * the program may not use the library's way from a float to its bits.
     */
    private static int floatBits(long part, long whole) {
        if (part <= 0 || whole <= 0) {
            return 0;
        }
        int shift = FRACTION_BITS;
        while (shift < MAX_SHIFT && (part << shift) < (whole << FRACTION_BITS)) {
            shift++;
        }
        long fraction = (part << shift) / whole;
        long rest = (part << shift) % whole;
        // just between two floats there is none: that takes an odd factor of 25 bits in part
        if (2 * rest > whole) {
            fraction++;
        }
        // a fraction that was rounded up to the next power of two carries into the exponent, as it should
        int exponent = FLOAT_BIAS + FRACTION_BITS - shift;
        return (exponent << FRACTION_BITS) + (int) (fraction - (1L << FRACTION_BITS));
    }

    /** Rows of numbers, not an object for each canal: so a state is copied into another one and nothing is made. */
    private static final class Canals {
        int size = 1;
        int open;
        final int[] parent = new int[MAX_CANALS];
        final int[] kind = new int[MAX_CANALS];
        final int[] width = new int[MAX_CANALS];
        final int[] seepage = new int[MAX_CANALS];
        final int[] crew = new int[MAX_CANALS];
        final int[] came = new int[MAX_CANALS];
        final int[] seeped = new int[MAX_CANALS];
        final int[] ranOff = new int[MAX_CANALS];

        Canals() {
            width[0] = FIRST_WIDTH;
            seepage[0] = FIRST_SEEPAGE;
            for (int gate = 0; gate < MAX_CANALS; gate++) {
                crew[gate] = NO_CREW;
            }
        }

        void become(Canals other) {
            size = other.size;
            open = other.open;
            System.arraycopy(other.parent, 0, parent, 0, MAX_CANALS);
            System.arraycopy(other.kind, 0, kind, 0, MAX_CANALS);
            System.arraycopy(other.width, 0, width, 0, MAX_CANALS);
            System.arraycopy(other.seepage, 0, seepage, 0, MAX_CANALS);
            System.arraycopy(other.crew, 0, crew, 0, MAX_CANALS);
            System.arraycopy(other.came, 0, came, 0, MAX_CANALS);
            System.arraycopy(other.seeped, 0, seeped, 0, MAX_CANALS);
            System.arraycopy(other.ranOff, 0, ranOff, 0, MAX_CANALS);
        }

        boolean has(int canal) {
            return canal >= 0 && canal < size;
        }

        boolean hasGate(int gate) {
            return gate > 0 && gate < size;
        }

        int allGates() {
            return (1 << size) - 2;
        }

        boolean areGates(int set) {
            return (set & ~allGates()) == 0;
        }

        int add(int itsParent, int itsKind, int itsWidth, int itsSeepage) {
            int canal = size;
            parent[canal] = itsParent;
            kind[canal] = itsKind;
            width[canal] = itsWidth;
            seepage[canal] = itsSeepage;
            size++;
            return canal;
        }

        boolean isOpen(int gate) {
            return (open & 1 << gate) != 0;
        }

        boolean isTended(int gate) {
            return crew[gate] != NO_CREW;
        }

        boolean canBeOpened(int gate) {
            return isTended(gate) && !isOpen(gate);
        }

        boolean canBeClosed(int gate) {
            return isTended(gate) && isOpen(gate);
        }

        int flipGate(int gate) {
            open ^= 1 << gate;
            return open;
        }

        int tended() {
            int set = 0;
            for (int gate = 1; gate < size; gate++) {
                if (isTended(gate)) {
                    set |= 1 << gate;
                }
            }
            return set;
        }

        int gatesOf(int aCrew) {
            int gates = 0;
            for (int gate = 1; gate < size; gate++) {
                if (crew[gate] == aCrew) {
                    gates++;
                }
            }
            return gates;
        }

        int below(int canal) {
            int reached = 1 << canal;
            // a parent has a lesser number than its branches, so one pass by the numbers reaches all
            for (int branch = canal + 1; branch < size; branch++) {
                if ((reached & 1 << parent[branch]) != 0) {
                    reached |= 1 << branch;
                }
            }
            return reached & ~(1 << canal);
        }
    }

    private static final class Fields {
        int size;
        int calling;
        final int[] canal = new int[MAX_FIELDS];
        final int[] need = new int[MAX_FIELDS];
        final int[] mouth = new int[MAX_FIELDS];
        final int[] right = new int[MAX_FIELDS];
        final int[] got = new int[MAX_FIELDS];
        final int[] hourOfNeed = new int[MAX_FIELDS];
        /** The fields' numbers as they are served: rights never change, so each is put in its place but once. */
        final int[] byRight = new int[MAX_FIELDS];

        void become(Fields other) {
            size = other.size;
            calling = other.calling;
            System.arraycopy(other.canal, 0, canal, 0, MAX_FIELDS);
            System.arraycopy(other.need, 0, need, 0, MAX_FIELDS);
            System.arraycopy(other.mouth, 0, mouth, 0, MAX_FIELDS);
            System.arraycopy(other.right, 0, right, 0, MAX_FIELDS);
            System.arraycopy(other.got, 0, got, 0, MAX_FIELDS);
            System.arraycopy(other.hourOfNeed, 0, hourOfNeed, 0, MAX_FIELDS);
            System.arraycopy(other.byRight, 0, byRight, 0, MAX_FIELDS);
        }

        boolean has(int field) {
            return field >= 0 && field < size;
        }

        boolean areFields(int set) {
            return (set & -(1 << size)) == 0;
        }

        int add(int itsCanal, int itsNeed, int itsMouth, int itsRight) {
            int field = size;
            canal[field] = itsCanal;
            need[field] = itsNeed;
            mouth[field] = itsMouth;
            right[field] = itsRight;
            int place = size;
            while (place > 0 && right[byRight[place - 1]] > itsRight) {
                byRight[place] = byRight[place - 1];
                place--;
            }
            byRight[place] = field;
            size++;
            return field;
        }

        boolean wants(int field) {
            return got[field] < need[field];
        }

        int wanting() {
            int set = 0;
            for (int field = 0; field < size; field++) {
                if (wants(field)) {
                    set |= 1 << field;
                }
            }
            return set;
        }

        boolean calls(int field) {
            return (calling & 1 << field) != 0;
        }

        boolean canCall(int field) {
            return wants(field) && !calls(field);
        }

        int beginCall(int field) {
            calling |= 1 << field;
            return Integer.bitCount(calling);
        }

        int give(int field, int water, int hour) {
            int taken = Math.min(water, Math.min(mouth[field], need[field] - got[field]));
            got[field] += taken;
            if (got[field] >= need[field]) {
                hourOfNeed[field] = hour;
            }
            return taken;
        }
    }

    private static final class Turns {
        int size;
        int on;
        int gone;
        final int[] gates = new int[MAX_TURNS];
        final int[] hours = new int[MAX_TURNS];

        void become(Turns other) {
            size = other.size;
            on = other.on;
            gone = other.gone;
            System.arraycopy(other.gates, 0, gates, 0, MAX_TURNS);
            System.arraycopy(other.hours, 0, hours, 0, MAX_TURNS);
        }

        boolean has(int turn) {
            return turn >= 0 && turn < size;
        }

        int add(int itsGates, int itsHours) {
            gates[size] = itsGates;
            hours[size] = itsHours;
            size++;
            beginAgain();
            return size;
        }

        int removeAll() {
            int removed = size;
            size = 0;
            beginAgain();
            return removed;
        }

        private void beginAgain() {
            on = 0;
            gone = 0;
        }

        int gatesInNextHour(int openNow) {
            // behind the first hour of a turn its gates may have been moved by hand
            return size > 0 && gone == 0 ? gates[on] : openNow;
        }

        void goOn() {
            if (size == 0) {
                return;
            }
            gone++;
            if (gone >= hours[on]) {
                gone = 0;
                on = on + 1 < size ? on + 1 : 0;
            }
        }
    }

    /** All that a state of the history keeps: not the text, which undo() leaves as it is. */
    private static final class Terrace {
        final Canals canals = new Canals();
        final Fields fields = new Fields();
        final Turns turns = new Turns();
        int hours;
        int letIn;
        int got;
        int seeped;
        int ranOff;
        /** The oldest right that calls at a canal, and below it through open gates: found anew, so never copied. */
        final int[] callAt = new int[MAX_CANALS];
        final int[] callBelow = new int[MAX_CANALS];
        /** The gates that let anything through in the hour: found anew, so never copied. */
        int passing;

        void become(Terrace other) {
            canals.become(other.canals);
            fields.become(other.fields);
            turns.become(other.turns);
            hours = other.hours;
            letIn = other.letIn;
            got = other.got;
            seeped = other.seeped;
            ranOff = other.ranOff;
        }

        boolean hasHoursLeft(int more) {
            return more <= MAX_HOURS - hours;
        }

        int runHours(int number, int buckets) {
            int gotBefore = got;
            for (int i = 0; i < number; i++) {
                canals.open = turns.gatesInNextHour(canals.open);
                passHour(buckets);
                turns.goOn();
            }
            return got - gotBefore;
        }

        int passHour(int buckets) {
            int gotBefore = got;
            hours++;
            // calls and wants that matter for a canal are below it, so they are all as before the hour there
            findCallsBelow();
            findPassingGates();
            Arrays.fill(canals.came, 0);
            canals.came[0] = Math.min(buckets, canals.width[0]);
            letIn += canals.came[0];
            for (int canal = 0; canal < canals.size; canal++) {
                int left = canals.came[canal];
                left -= seepAway(canal, left);
                left -= giveToFields(canal, left);
                left -= partAmongGates(canal, left);
                canals.ranOff[canal] += left;
                ranOff += left;
            }
            endCalls();
            return got - gotBefore;
        }

        void findCallsBelow() {
            Arrays.fill(callAt, NO_RIGHT);
            Arrays.fill(callBelow, NO_RIGHT);
            for (int field = 0; field < fields.size; field++) {
                if (fields.calls(field)) {
                    int canal = fields.canal[field];
                    callAt[canal] = Math.min(callAt[canal], fields.right[field]);
                }
            }
            for (int gate = canals.size - 1; gate > 0; gate--) {
                if (canals.isOpen(gate)) {
                    int parent = canals.parent[gate];
                    callBelow[parent] = Math.min(callBelow[parent], Math.min(callAt[gate], callBelow[gate]));
                }
            }
        }

        /** Rests on findCallsBelow(), which goes ahead of it once for all fields. */
        boolean mayTake(int field) {
            return callBelow[fields.canal[field]] >= fields.right[field];
        }

        void findPassingGates() {
            int thirsty = 0;
            for (int field = 0; field < fields.size; field++) {
                if (fields.wants(field)) {
                    thirsty |= 1 << fields.canal[field];
                }
            }
            passing = 0;
            for (int gate = canals.size - 1; gate > 0; gate--) {
                boolean isThirsty = (thirsty & 1 << gate) != 0;
                if (isThirsty) {
                    thirsty |= 1 << canals.parent[gate];
                }
                if (canals.isOpen(gate) && (canals.kind[gate] != FLOAT || isThirsty)) {
                    passing |= 1 << gate;
                }
            }
        }

        int seepAway(int canal, int water) {
            int lost = (water * canals.seepage[canal] + 999) / 1000;
            canals.seeped[canal] += lost;
            seeped += lost;
            return lost;
        }

        int giveToFields(int canal, int water) {
            int left = water;
            for (int i = 0; i < fields.size; i++) {
                int field = fields.byRight[i];
                if (fields.canal[field] == canal && fields.wants(field) && mayTake(field)) {
                    left -= fields.give(field, left, hours);
                }
            }
            got += water - left;
            return water - left;
        }

        int partAmongGates(int canal, int water) {
            int gates = 0;
            for (int gate = canal + 1; gate < canals.size; gate++) {
                if (isPassingFrom(canal, gate)) {
                    gates++;
                }
            }
            if (gates == 0) {
                return 0;
            }
            int part = water / gates;
            int over = water % gates;
            int through = 0;
            for (int gate = canal + 1; gate < canals.size; gate++) {
                if (isPassingFrom(canal, gate)) {
                    canals.came[gate] = throughGate(gate, over > 0 ? part + 1 : part);
                    through += canals.came[gate];
                    over--;
                }
            }
            return through;
        }

        boolean isPassingFrom(int canal, int gate) {
            return canals.parent[gate] == canal && (passing & 1 << gate) != 0;
        }

        int throughGate(int gate, int part) {
            int ofItsKind = canals.kind[gate] == SCREW ? (part + 1) / 2 : part;
            return Math.min(ofItsKind, canals.width[gate]);
        }

        void endCalls() {
            fields.calling &= fields.wanting();
        }
    }

    /** States made once and written over, so that a change makes no object. */
    private static final class History {
        int size;
        final Terrace[] states = new Terrace[MAX_STATES];

        History() {
            for (int i = 0; i < MAX_STATES; i++) {
                states[i] = new Terrace();
            }
        }

        void record(Terrace terrace) {
            if (size >= MAX_STATES) {
                dropOldest();
            }
            states[size].become(terrace);
            size++;
        }

        private void dropOldest() {
            Terrace oldest = states[0];
            for (int i = 1; i < MAX_STATES; i++) {
                states[i - 1] = states[i];
            }
            states[MAX_STATES - 1] = oldest;
            size = MAX_STATES - 1;
        }

        int restoreLatest(Terrace terrace) {
            if (size > 0) {
                size--;
                terrace.become(states[size]);
            }
            return size;
        }
    }

    /** The text: orders are carried out while they are read, as whether one is possible depends on those ahead. */
    private static final class Orders {
        int length;
        final int[] characters = new int[MAX_TEXT];
        /** Where the order that is read begins, and where the reading stands. */
        int start;
        int place;
        int letter;
        int first;
        int second;
        /** Of the fault, which is at start; its reason is NO_FAULT if there is none. */
        int reason;
        int cause;

        int append(int character) {
            characters[length] = character;
            length++;
            return length;
        }

        int carryOutToFault(Terrace terrace) {
            int got = 0;
            place = 0;
            reason = NO_FAULT;
            for (int done = 0; done < MAX_TEXT && place < length; done++) {
                start = place;
                reason = reasonAgainst(terrace);
                if (reason != NO_FAULT) {
                    return got;
                }
                got += carryOut(terrace);
            }
            return got;
        }

        private int reasonAgainst(Terrace terrace) {
            if (!readOrder()) {
                // the reading stands where the order breaks off
                cause = place - start;
                return NOT_OF_FORM;
            }
            if (!isInRange(terrace)) {
                // buckets, all that a second number tells, can't be out of range with three digits
                cause = 0;
                return OUT_OF_RANGE;
            }
            return isPossible(terrace) ? NO_FAULT : NOT_DOABLE;
        }

        private boolean readOrder() {
            letter = characterAt(place);
            if (letter != 'o' && letter != 'c' && letter != 'y' && letter != 'h' && letter != 'r') {
                return false;
            }
            place++;
            first = readNumber();
            if (first < 0) {
                return false;
            }
            if (letter == 'r') {
                if (!skip(',')) {
                    return false;
                }
                second = readNumber();
                if (second < 0) {
                    return false;
                }
            }
            return skip(';');
        }

        /** The number of one to three digits at the place, or -1. */
        private int readNumber() {
            int number = -1;
            for (int digits = 0; digits < MAX_DIGITS; digits++) {
                int character = characterAt(place);
                if (character < '0' || character > '9') {
                    return number;
                }
                number = Math.max(number, 0) * 10 + character - '0';
                place++;
            }
            return number;
        }

        private boolean skip(int character) {
            if (characterAt(place) != character) {
                return false;
            }
            place++;
            return true;
        }

        private int characterAt(int where) {
            // 0 can't be typed, so behind the end there is no character that an order asks for
            return where >= 0 && where < length ? characters[where] : 0;
        }

        private boolean isInRange(Terrace terrace) {
            switch (letter) {
                case 'o':
                case 'c': return terrace.canals.hasGate(first);
                case 'y': return terrace.fields.has(first);
                case 'r': return !isOutside(first, 1, MAX_ORDER_HOURS);
                default: return true;
            }
        }

        private boolean isPossible(Terrace terrace) {
            switch (letter) {
                case 'o': return terrace.canals.canBeOpened(first);
                case 'c': return terrace.canals.canBeClosed(first);
                case 'y': return terrace.fields.canCall(first);
                case 'h': return terrace.hasHoursLeft(1);
                default: return terrace.hasHoursLeft(first);
            }
        }

        private int carryOut(Terrace terrace) {
            switch (letter) {
                case 'o':
                case 'c':
                    terrace.canals.flipGate(first);
                    return 0;
                case 'y':
                    terrace.fields.beginCall(first);
                    return 0;
                case 'h':
                    return terrace.passHour(first);
                default:
                    return terrace.runHours(first, second);
            }
        }
    }
}
