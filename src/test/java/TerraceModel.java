import java.util.ArrayDeque;
import java.util.ArrayList;
import java.util.Comparator;
import java.util.Deque;
import java.util.List;
import java.util.regex.Matcher;
import java.util.regex.Pattern;

/** The document once more, written apart from the program, slowly and with the whole library. */
final class TerraceModel {
    private static final int INVALID = Due.INVALID;
    private static final int NOT_POSSIBLE = Due.NOT_POSSIBLE;
    private static final int LIMIT = Due.LIMIT;
    private static final int NOT_FOUND = Due.NOT_FOUND;

    static final class Canal {
        int number;
        Canal parent;
        int kind;
        int width;
        int seepage;
        boolean open;
        int crew = -1;
        int came;
        int seeped;
        int ranOff;
    }

    static final class Field {
        int number;
        Canal canal;
        int need;
        int mouth;
        int right;
        int got;
        boolean calls;
        int hour;

        boolean wants() {
            return need - got > 0;
        }
    }

    static final class State {
        final List<Canal> canals = new ArrayList<>();
        final List<Field> fields = new ArrayList<>();
        final List<int[]> turns = new ArrayList<>();
        /** Hours of the whole row that have gone by; the turn that is on follows from it. */
        int rowHours;
        int hours;
        int letIn;

        State copy() {
            State copy = new State();
            for (Canal old : canals) {
                Canal c = new Canal();
                c.number = old.number;
                c.parent = old.parent == null ? null : copy.canals.get(old.parent.number);
                c.kind = old.kind;
                c.width = old.width;
                c.seepage = old.seepage;
                c.open = old.open;
                c.crew = old.crew;
                c.came = old.came;
                c.seeped = old.seeped;
                c.ranOff = old.ranOff;
                copy.canals.add(c);
            }
            for (Field old : fields) {
                Field f = new Field();
                f.number = old.number;
                f.canal = copy.canals.get(old.canal.number);
                f.need = old.need;
                f.mouth = old.mouth;
                f.right = old.right;
                f.got = old.got;
                f.calls = old.calls;
                f.hour = old.hour;
                copy.fields.add(f);
            }
            copy.turns.addAll(turns);
            copy.rowHours = rowHours;
            copy.hours = hours;
            copy.letIn = letIn;
            return copy;
        }

        boolean isBelow(Canal low, Canal high) {
            return low.parent != null && (low.parent == high || isBelow(low.parent, high));
        }

        boolean isReached(Canal low, Canal high) {
            return low.parent != null && low.open && (low.parent == high || isReached(low.parent, high));
        }

        boolean mayTake(Field field) {
            return fields.stream().noneMatch(
                    f -> f.calls && f.right < field.right && isReached(f.canal, field.canal));
        }

        boolean letsAnythingThrough(Canal c) {
            return c.open && (c.kind != 2
                    || fields.stream().anyMatch(f -> f.wants() && (f.canal == c || isBelow(f.canal, c))));
        }

        int got() {
            return fields.stream().mapToInt(f -> f.got).sum();
        }

        int seeped() {
            return canals.stream().mapToInt(c -> c.seeped).sum();
        }

        int ranOff() {
            return canals.stream().mapToInt(c -> c.ranOff).sum();
        }

        List<Field> wanting() {
            return fields.stream().filter(Field::wants)
                    .sorted(Comparator.comparingInt((Field f) -> f.right).thenComparingInt(f -> f.number)).toList();
        }

        void openJust(int set) {
            canals.forEach(c -> c.open = c.number > 0 && (set >> c.number & 1) == 1);
        }

        int openSet() {
            return canals.stream().filter(c -> c.open).mapToInt(c -> 1 << c.number).sum();
        }

        int hour(int buckets) {
            int before = got();
            hours++;
            canals.forEach(c -> c.came = 0);
            canals.get(0).came = Math.min(buckets, 200);
            letIn += canals.get(0).came;
            canals.forEach(this::flow);
            fields.forEach(f -> f.calls = f.calls && f.wants());
            return got() - before;
        }

        void flow(Canal canal) {
            int left = canal.came;
            int seep = (int) Math.ceil(left * (double) canal.seepage / 1000.0 - 1e-9);
            canal.seeped += seep;
            left -= seep;
            for (Field f : wanting()) {
                if (f.canal == canal && mayTake(f)) {
                    int taken = Math.min(f.mouth, Math.min(f.need - f.got, left));
                    f.got += taken;
                    left -= taken;
                    if (!f.wants()) {
                        f.hour = hours;
                    }
                }
            }
            List<Canal> branches = canals.stream().filter(c -> c.parent == canal && letsAnythingThrough(c)).toList();
            int[] parts = new int[branches.size()];
            for (int bucket = 0; bucket < left && parts.length > 0; bucket++) {
                parts[bucket % parts.length]++;
            }
            for (int i = 0; i < parts.length; i++) {
                Canal branch = branches.get(i);
                int through = branch.kind == 1 ? parts[i] - parts[i] / 2 : parts[i];
                branch.came = Math.min(through, branch.width);
                left -= branch.came;
            }
            canal.ranOff += left;
        }

        /** The turn that is on and the hours of it that have gone by. */
        int[] turnOn() {
            int total = turns.stream().mapToInt(t -> t[1]).sum();
            int rest = total == 0 ? 0 : rowHours % total;
            for (int turn = 0; turn < turns.size(); turn++) {
                if (rest < turns.get(turn)[1]) {
                    return new int[] {turn, rest};
                }
                rest -= turns.get(turn)[1];
            }
            return new int[] {NOT_FOUND, 0};
        }

        int run(int number, int buckets) {
            int got = 0;
            for (int i = 0; i < number; i++) {
                int[] on = turnOn();
                if (on[0] >= 0 && on[1] == 0) {
                    openJust(turns.get(on[0])[0]);
                }
                got += hour(buckets);
                rowHours++;
            }
            return got;
        }

        boolean isGate(int gate) {
            return gate >= 1 && gate < canals.size();
        }

        boolean isField(int field) {
            return field >= 0 && field < fields.size();
        }

        boolean areGates(int set) {
            for (int bit = 0; bit < 32; bit++) {
                if ((set >>> bit & 1) == 1 && !isGate(bit)) {
                    return false;
                }
            }
            return true;
        }

        int byHand(int gate, boolean open) {
            if (!isGate(gate)) {
                return INVALID;
            }
            Canal c = canals.get(gate);
            if (c.crew < 0 || c.open == open) {
                return NOT_POSSIBLE;
            }
            c.open = open;
            return openSet();
        }

        int call(int field) {
            if (!isField(field)) {
                return INVALID;
            }
            Field f = fields.get(field);
            if (f.calls || !f.wants()) {
                return NOT_POSSIBLE;
            }
            f.calls = true;
            return (int) fields.stream().filter(x -> x.calls).count();
        }
    }

    private State now = new State();
    private final Deque<State> history = new ArrayDeque<>();
    private String text = "";

    TerraceModel() {
        Canal first = new Canal();
        first.width = 200;
        first.seepage = 50;
        now.canals.add(first);
    }

    private static boolean in(int number, int least, int most) {
        return least <= number && number <= most;
    }

    /** Keeps the state before a change, unless its answer is an error; the change was done on a copy. */
    private int changed(State behind, int answer) {
        if (answer >= 0) {
            history.addLast(now);
            if (history.size() > 4) {
                history.removeFirst();
            }
            now = behind;
        }
        return answer;
    }

    int canal(int parent, int kind, int width, int seepage) {
        if (!in(parent, 0, now.canals.size() - 1) || !in(kind, 0, 2) || !in(width, 1, 500) || !in(seepage, 0, 500)) {
            return INVALID;
        }
        if (now.canals.size() == 8) {
            return LIMIT;
        }
        State next = now.copy();
        Canal c = new Canal();
        c.number = next.canals.size();
        c.parent = next.canals.get(parent);
        c.kind = kind;
        c.width = width;
        c.seepage = seepage;
        next.canals.add(c);
        return changed(next, c.number);
    }

    int field(int canal, int need, int mouth, int right) {
        if (!in(canal, 0, now.canals.size() - 1) || !in(need, 1, 999) || !in(mouth, 1, 200) || !in(right, 0, 99)) {
            return INVALID;
        }
        if (now.fields.size() == 10) {
            return LIMIT;
        }
        State next = now.copy();
        Field f = new Field();
        f.number = next.fields.size();
        f.canal = next.canals.get(canal);
        f.need = need;
        f.mouth = mouth;
        f.right = right;
        next.fields.add(f);
        return changed(next, f.number);
    }

    int tend(int crew, int gate) {
        if (!in(crew, 0, 2) || !now.isGate(gate)) {
            return INVALID;
        }
        Canal old = now.canals.get(gate);
        if (old.crew >= 0 || crew != 2 && crew != old.kind) {
            return NOT_POSSIBLE;
        }
        int tends = (int) now.canals.stream().filter(c -> c.crew == crew).count();
        if (tends == 2) {
            return LIMIT;
        }
        State next = now.copy();
        next.canals.get(gate).crew = crew;
        return changed(next, tends + 1);
    }

    int leave(int gate) {
        if (!now.isGate(gate)) {
            return INVALID;
        }
        int crew = now.canals.get(gate).crew;
        if (crew < 0) {
            return NOT_POSSIBLE;
        }
        State next = now.copy();
        next.canals.get(gate).crew = -1;
        return changed(next, crew);
    }

    int open(int gate) {
        State next = now.copy();
        return changed(next, next.byHand(gate, true));
    }

    int close(int gate) {
        State next = now.copy();
        return changed(next, next.byHand(gate, false));
    }

    int call(int field) {
        State next = now.copy();
        return changed(next, next.call(field));
    }

    int turn(int gates, int hours) {
        if (!now.areGates(gates) || !in(hours, 1, 20)) {
            return INVALID;
        }
        if (now.turns.size() == 8) {
            return LIMIT;
        }
        State next = now.copy();
        next.turns.add(new int[] {gates, hours});
        next.rowHours = 0;
        return changed(next, next.turns.size());
    }

    int noTurns() {
        State next = now.copy();
        next.turns.clear();
        next.rowHours = 0;
        return changed(next, now.turns.size());
    }

    int hour(int buckets) {
        if (!in(buckets, 0, 999)) {
            return INVALID;
        }
        if (now.hours == 20000) {
            return LIMIT;
        }
        State next = now.copy();
        return changed(next, next.hour(buckets));
    }

    int run(int hours, int buckets) {
        if (!in(hours, 1, 100) || !in(buckets, 0, 999)) {
            return INVALID;
        }
        if (now.hours + hours > 20000) {
            return LIMIT;
        }
        State next = now.copy();
        return changed(next, next.run(hours, buckets));
    }

    int canalOf(int canal, int what) {
        if (!in(canal, 0, now.canals.size() - 1) || !in(what, 0, 9)) {
            return INVALID;
        }
        Canal c = now.canals.get(canal);
        if (canal == 0 && (what == 0 || what == 1 || what == 4 || what == 5)) {
            return NOT_FOUND;
        }
        int below = now.canals.stream().filter(x -> now.isBelow(x, c)).mapToInt(x -> 1 << x.number).sum();
        return what == 0 ? c.parent.number : what == 1 ? c.kind : what == 2 ? c.width : what == 3 ? c.seepage
                : what == 4 ? (c.open ? 1 : 0) : what == 5 ? (c.crew < 0 ? NOT_FOUND : c.crew) : what == 6 ? below
                : what == 7 ? c.came : what == 8 ? c.seeped : c.ranOff;
    }

    int fieldOf(int field, int what) {
        if (!now.isField(field) || !in(what, 0, 7)) {
            return INVALID;
        }
        Field f = now.fields.get(field);
        return new int[] {f.canal.number, f.need, f.mouth, f.right, f.got, f.calls ? 1 : 0, now.mayTake(f) ? 1 : 0,
            f.wants() ? NOT_FOUND : f.hour}[what];
    }

    int turnOf(int turn, int what) {
        return in(turn, 0, now.turns.size() - 1) && in(what, 0, 1) ? now.turns.get(turn)[what] : INVALID;
    }

    int share(int what) {
        if (!in(what, 0, 2)) {
            return INVALID;
        }
        if (now.letIn == 0) {
            return NOT_FOUND;
        }
        int part = what == 0 ? now.got() : what == 1 ? now.seeped() : now.ranOff();
        return Float.floatToIntBits((float) part / (float) now.letIn);
    }

    int would(int gates, int buckets, int what) {
        if (!now.areGates(gates) || !in(buckets, 0, 999) || !in(what, 0, 2) && !in(what, 10, 9 + now.fields.size())) {
            return INVALID;
        }
        State then = now.copy();
        then.openJust(gates);
        then.hour(buckets);
        return what == 0 ? then.got() - now.got() : what == 1 ? then.seeped() - now.seeped()
                : what == 2 ? then.ranOff() - now.ranOff() : then.fields.get(what - 10).got - now.fields.get(what - 10).got;
    }

    int leastGates(int fields, int buckets, int hours) {
        if (fields < 0 || fields >= 1 << now.fields.size() || !in(buckets, 0, 999) || !in(hours, 1, 5)) {
            return INVALID;
        }
        List<Integer> sets = new ArrayList<>();
        for (int set = 0; set < 256; set++) {
            if (now.areGates(set)) {
                sets.add(set);
            }
        }
        sets.sort(Comparator.comparingInt((Integer s) -> Integer.bitCount(s)).thenComparingInt(s -> s));
        for (int set : sets) {
            State then = now.copy();
            then.openJust(set);
            for (int hour = 0; hour < hours; hour++) {
                then.hour(buckets);
            }
            if (then.fields.stream().noneMatch(f -> f.wants() && (fields >> f.number & 1) == 1)) {
                return set;
            }
        }
        return NOT_FOUND;
    }

    int fewestBuckets(int field) {
        if (!now.isField(field)) {
            return INVALID;
        }
        for (int buckets = 0; buckets <= 999; buckets++) {
            State then = now.copy();
            then.hour(buckets);
            if (then.fields.get(field).got > now.fields.get(field).got) {
                return buckets;
            }
        }
        return NOT_FOUND;
    }

    int hoursFor(int buckets) {
        if (!in(buckets, 0, 999)) {
            return INVALID;
        }
        State then = now.copy();
        for (int hours = 0; hours <= 100; hours++) {
            if (hours > 0) {
                then.run(1, buckets);
            }
            if (then.fields.stream().noneMatch(Field::wants)) {
                return hours;
            }
        }
        return NOT_FOUND;
    }

    int rightAt(int place) {
        if (place < 0) {
            return INVALID;
        }
        List<Field> row = now.wanting();
        return place < row.size() ? row.get(place).number : NOT_FOUND;
    }

    int count(int what) {
        if (!in(what, 0, 15)) {
            return INVALID;
        }
        int calling = now.fields.stream().filter(f -> f.calls).mapToInt(f -> 1 << f.number).sum();
        int tended = now.canals.stream().filter(c -> c.crew >= 0).mapToInt(c -> 1 << c.number).sum();
        int[] on = now.turnOn();
        return new int[] {now.canals.size(), now.fields.size(), now.wanting().size(), calling, now.openSet(), tended,
            now.hours, now.letIn, now.got(), now.seeped(), now.ranOff(), now.turns.size(), on[0], on[1],
            history.size(), text.length()}[what];
    }

    int undo() {
        if (history.isEmpty()) {
            return NOT_POSSIBLE;
        }
        now = history.removeLast();
        return history.size();
    }

    int type(int character) {
        if (!in(character, 32, 126)) {
            return INVALID;
        }
        if (text.length() == 60) {
            return LIMIT;
        }
        text += (char) character;
        return text.length();
    }

    int clearText() {
        int length = text.length();
        text = "";
        return length;
    }

    private static final Pattern ORDER = Pattern.compile("([ocyh])(\\d{1,3});|r(\\d{1,3}),(\\d{1,3});");

    /** Position, reason, cause of the fault, and what the fields got, the state being changed. */
    private int[] orders(State then) {
        int at = 0;
        int got = 0;
        Matcher order = ORDER.matcher(text);
        while (at < text.length()) {
            order.region(at, text.length());
            if (!order.lookingAt()) {
                return new int[] {at, 1, breakOff(text.substring(at)), got};
            }
            String letter = order.group(1) == null ? "r" : order.group(1);
            int number = Integer.parseInt(order.group(1) == null ? order.group(3) : order.group(2));
            int answer;
            switch (letter) {
                case "o": answer = then.byHand(number, true); break;
                case "c": answer = then.byHand(number, false); break;
                case "y": answer = then.call(number); break;
                case "h": answer = then.hours >= 20000 ? LIMIT : then.hour(number); break;
                default: answer = !in(number, 1, 10) ? INVALID : then.hours + number > 20000 ? LIMIT
                        : then.run(number, Integer.parseInt(order.group(4)));
            }
            if (answer < 0) {
                return new int[] {at, answer == INVALID ? 2 : 3, answer == INVALID ? 0 : NOT_FOUND, got};
            }
            got += letter.equals("h") || letter.equals("r") ? answer : 0;
            at = order.end();
        }
        return new int[] {NOT_FOUND, NOT_FOUND, NOT_FOUND, got};
    }

    /** The longest beginning of a text that some order begins with. */
    private static int breakOff(String rest) {
        String[] beginnings = {"", "[ocyhr]", "[ocyhr]\\d{1,3}", "r\\d{1,3},", "r\\d{1,3},\\d{1,3}"};
        int longest = 0;
        for (int length = 0; length <= rest.length(); length++) {
            for (String beginning : beginnings) {
                if (rest.substring(0, length).matches(beginning)) {
                    longest = length;
                }
            }
        }
        return longest;
    }

    int fault(int what) {
        return in(what, 0, 2) ? orders(now.copy())[what] : INVALID;
    }

    int play() {
        State next = now.copy();
        int[] fault = orders(next);
        return fault[0] >= 0 ? NOT_POSSIBLE : changed(next, fault[3]);
    }
}
