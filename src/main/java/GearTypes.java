/** A miller's types of wheels: the parts of a mill, and the most general type of each. */
public final class GearTypes {
    private static final int MOST_PARTS = 40;
    private static final int MOST_SIZE = 60;
    private static final int MOST_CODES = 60;
    private static final int MOST_NAME = 9;
    private static final int NONE = -1;

    private static final int SORT_WEIGHT = 0;
    private static final int SORT_FLAG = 1;
    private static final int SORT_NAME = 2;
    private static final int SORT_WHEEL = 3;
    private static final int SORT_TURNING = 4;
    private static final int SORT_TELLING = 5;
    private static final int SORT_AXLE = 6;
    private static final int SORT_END = 7;
    private static final int SORT_CHOICE = 8;

    private static final int PART_SORT = 0;
    private static final int PART_FIRST = 1;
    private static final int PART_SECOND = 2;
    private static final int PART_THIRD = 3;
    private static final int PART_LABEL = 4;
    private static final int PART_SIZE = 5;
    private static final int PART_DEPTH = 6;
    private static final int PART_FACTS = 7;

    private static final int TYPE_FAULT = 0;
    private static final int TYPE_PLACE = 1;
    private static final int TYPE_CODES = 2;
    private static final int TYPE_VARIABLES = 3;
    private static final int TYPE_DEPTH = 4;
    private static final int TYPE_FACTS = 5;

    private static final int NO_FAULT = 0;
    private static final int FAULT_NO_NAME = 1;
    private static final int FAULT_OTHER_KIND = 2;
    private static final int FAULT_WITHIN_ITSELF = 3;
    private static final int FAULT_TOO_LONG = 4;
    private static final int COUNTS = 6;

    private static final int CODE_WEIGHT = 0;
    private static final int CODE_FLAG = 1;
    private static final int CODE_WHEEL = 2;
    private static final int CODE_AXLE = 3;
    private static final int CODE_VARIABLE = 10;

    private static final int MANY_STEPS = 1000000;

    private final Parts parts;
    private final Rows rows;
    private final Finder finder;

    public GearTypes() {
        parts = new Parts();
        rows = new Rows();
        finder = new Finder();
    }

    // ---- making

    public int plain(int sort) throws IllegalArgumentException, IllegalStateException {
        needBetween(sort, 0, 1);
        return add(sort == 0 ? SORT_WEIGHT : SORT_FLAG, NONE, NONE, NONE, NONE);
    }

    public int name(int name) throws IllegalArgumentException, IllegalStateException {
        needBetween(name, 0, MOST_NAME);
        return add(SORT_NAME, name, NONE, NONE, NONE);
    }

    public int wheel(int name, int inside)
            throws IndexOutOfBoundsException, IllegalArgumentException, IllegalStateException {
        needPart(inside);
        needBetween(name, 0, MOST_NAME);
        return add(SORT_WHEEL, name, inside, NONE, NONE);
    }

    public int turn(int wheel, int by) throws IndexOutOfBoundsException, IllegalStateException {
        needPart(wheel);
        needPart(by);
        return add(SORT_TURNING, NONE, wheel, by, NONE);
    }

    public int tell(int name, int told, int inside)
            throws IndexOutOfBoundsException, IllegalArgumentException, IllegalStateException {
        needPart(told);
        needPart(inside);
        needBetween(name, 0, MOST_NAME);
        return add(SORT_TELLING, name, told, inside, NONE);
    }

    public int axle(int left, int right) throws IndexOutOfBoundsException, IllegalStateException {
        needPart(left);
        needPart(right);
        return add(SORT_AXLE, NONE, left, right, NONE);
    }

    public int end(int axle, int side)
            throws IndexOutOfBoundsException, IllegalArgumentException, IllegalStateException {
        needPart(axle);
        needBetween(side, 0, 1);
        return add(SORT_END, side, axle, NONE, NONE);
    }

    public int either(int flag, int a, int b) throws IndexOutOfBoundsException, IllegalStateException {
        needPart(flag);
        needPart(a);
        needPart(b);
        return add(SORT_CHOICE, NONE, flag, a, b);
    }

    public int undo() throws IllegalStateException {
        int last = parts.made() - 1;
        if (last < 0) {
            throw new IllegalStateException();
        }
        parts.dropLast();
        return last;
    }

    // ---- parts and types

    public int part(int part, int what) throws IndexOutOfBoundsException {
        needPart(part);
        needPlace(what, PART_FACTS);
        return parts.fact(part, what);
    }

    public int type(int part, int what) throws IndexOutOfBoundsException {
        needPart(part);
        needPlace(what, TYPE_FACTS);
        return rows.fact(part, what);
    }

    public int code(int part, int place) throws IndexOutOfBoundsException {
        needPart(part);
        needPlace(place, rows.fact(part, TYPE_CODES));
        return rows.codeAt(part, place);
    }

    public int count(int what) throws IndexOutOfBoundsException {
        needPlace(what, COUNTS);
        return counted(what);
    }

    // ---- comparing

    public boolean same(int a, int b) throws IndexOutOfBoundsException {
        needPart(a);
        needPart(b);
        return bothTyped(a, b) && rows.alike(a, b);
    }

    public boolean fits(int a, int b) throws IndexOutOfBoundsException {
        needPart(a);
        needPart(b);
        return bothTyped(a, b) && rows.covers(a, b);
    }

    public int goes(int a, int b) throws IndexOutOfBoundsException {
        needPart(a);
        needPart(b);
        return faultOfTurning(a, b);
    }

    public int first(int part) throws IndexOutOfBoundsException {
        needPart(part);
        for (int by = 0; by < parts.made(); by++) {
            if (faultOfTurning(part, by) == NO_FAULT) {
                return by;
            }
        }
        return NONE;
    }

    public int longest() {
        int best = NONE;
        int most = 0;
        for (int part = 0; part < parts.made(); part++) {
            // a part with a fault has 0 codes, so it never is more
            int codes = rows.fact(part, TYPE_CODES);
            if (codes > most) {
                most = codes;
                best = part;
            }
        }
        return best;
    }

    public double mean() {
        int typed = counted(1);
        if (typed == 0) {
            return 0.0;
        }
        int sum = 0;
        for (int part = 0; part < parts.made(); part++) {
            sum += rows.fact(part, TYPE_CODES);
        }
        return (double) sum / (double) typed;
    }

    public long digest() {
        long sum = 1597L;
        for (int what = 0; what < COUNTS; what++) {
            sum = sum * 31L + counted(what);
        }
        for (int part = 0; part < parts.made(); part++) {
            for (int what = 0; what < PART_FACTS; what++) {
                sum = sum * 31L + parts.fact(part, what);
            }
            for (int what = 0; what < TYPE_FACTS; what++) {
                sum = sum * 31L + rows.fact(part, what);
            }
            int codes = rows.fact(part, TYPE_CODES);
            for (int place = 0; place < codes; place++) {
                sum = sum * 31L + rows.codeAt(part, place);
            }
        }
        return sum;
    }

    // ---- what the calls share

    private void needPart(int part) {
        needPlace(part, parts.made());
    }

    private void needPlace(int place, int places) {
        if (place < 0 || place >= places) {
            throw new IndexOutOfBoundsException();
        }
    }

    private void needBetween(int value, int least, int most) {
        if (value < least || value > most) {
            throw new IllegalArgumentException();
        }
    }

    private int add(int sort, int label, int one, int two, int three) {
        int size = parts.sizeOver(one, two, three);
        if (parts.made() >= MOST_PARTS || size > MOST_SIZE) {
            throw new IllegalStateException();
        }
        int part = parts.append(sort, label, one, two, three);
        // a part never changes and those in it never go before it, so its type is found once
        finder.settle(parts, part, rows);
        return part;
    }

    private int counted(int what) {
        if (what == 0) {
            return parts.made();
        }
        int number = 0;
        for (int part = 0; part < parts.made(); part++) {
            if (rows.fact(part, TYPE_FAULT) == what - 1) {
                number++;
            }
        }
        return number;
    }

    private boolean bothTyped(int a, int b) {
        return rows.fact(a, TYPE_FAULT) == NO_FAULT && rows.fact(b, TYPE_FAULT) == NO_FAULT;
    }

    private int faultOfTurning(int wheel, int by) {
        int ahead = rows.fact(wheel, TYPE_FAULT);
        if (ahead == NO_FAULT) {
            ahead = rows.fact(by, TYPE_FAULT);
        }
        return ahead == NO_FAULT ? finder.faultOfTurning(rows, wheel, by) : ahead;
    }

    /** The parts, each with the numbers that part() tells of it. */
    private static final class Parts {
        private final int[][] facts = new int[MOST_PARTS][PART_FACTS];
        private int made;

        int made() {
            return made;
        }

        int fact(int part, int what) {
            boolean there = part >= 0 && part < made && part < MOST_PARTS;
            return there && what >= 0 && what < PART_FACTS ? facts[part][what] : NONE;
        }

        int sizeOver(int one, int two, int three) {
            return 1 + sizeOf(one) + sizeOf(two) + sizeOf(three);
        }

        private int sizeOf(int part) {
            return part == NONE ? 0 : fact(part, PART_SIZE);
        }

        private int depthOf(int part) {
            return part == NONE ? 0 : fact(part, PART_DEPTH);
        }

        int append(int sort, int label, int one, int two, int three) {
            if (made < 0 || made >= MOST_PARTS) {
                return NONE;
            }
            int[] row = facts[made];
            row[PART_SORT] = sort;
            row[PART_FIRST] = one;
            row[PART_SECOND] = two;
            row[PART_THIRD] = three;
            row[PART_LABEL] = label;
            row[PART_SIZE] = sizeOver(one, two, three);
            row[PART_DEPTH] = 1 + Math.max(depthOf(one), Math.max(depthOf(two), depthOf(three)));
            made++;
            return made - 1;
        }

        void dropLast() {
            if (made > 0) {
                made--;
            }
        }
    }

    /** The types of the parts by themselves, each as its row and the numbers that type() tells. */
    private static final class Rows {
        private final int[][] codes = new int[MOST_PARTS][MOST_CODES];
        private final int[][] facts = new int[MOST_PARTS][TYPE_FACTS];
        private final int[] depths = new int[MOST_CODES];
        private final int[] starts = new int[MOST_CODES];

        int fact(int part, int what) {
            boolean there = part >= 0 && part < MOST_PARTS;
            return there && what >= 0 && what < TYPE_FACTS ? facts[part][what] : 0;
        }

        int codeAt(int part, int place) {
            boolean there = part >= 0 && part < MOST_PARTS;
            return there && place >= 0 && place < MOST_CODES ? codes[part][place] : CODE_WEIGHT;
        }

        void putFault(int part, int fault, int place) {
            putFacts(part, fault, place, 0);
        }

        void putRow(int part, int[] row, int length) {
            if (part < 0 || part >= MOST_PARTS) {
                return;
            }
            int[] into = codes[part];
            for (int i = 0; i < length && i < row.length && i < into.length; i++) {
                into[i] = row[i];
            }
            putFacts(part, NO_FAULT, NONE, Math.min(length, MOST_CODES));
        }

        private void putFacts(int part, int fault, int place, int length) {
            if (part < 0 || part >= MOST_PARTS) {
                return;
            }
            int[] into = facts[part];
            into[TYPE_FAULT] = fault;
            into[TYPE_PLACE] = place;
            into[TYPE_CODES] = length;
            into[TYPE_VARIABLES] = variablesIn(part, length);
            into[TYPE_DEPTH] = depthOf(part, length);
        }

        private int variablesIn(int part, int length) {
            int variables = 0;
            for (int i = 0; i < length; i++) {
                // variables are numbered as they come, so the highest code tells how many there are
                variables = Math.max(variables, codeAt(part, i) - CODE_VARIABLE + 1);
            }
            return variables;
        }

        /** Goes backwards, so that both types in a type are known ahead of it. */
        private int depthOf(int part, int length) {
            int top = 0;
            for (int i = length - 1; i >= 0; i--) {
                int depth = 1;
                if (isPair(codeAt(part, i)) && top >= 2) {
                    depth = 1 + Math.max(depths[top - 1], depths[top - 2]);
                    top -= 2;
                }
                if (top < MOST_CODES) {
                    depths[top] = depth;
                    top++;
                }
            }
            return top > 0 ? depths[top - 1] : 0;
        }

        boolean alike(int a, int b) {
            int length = fact(a, TYPE_CODES);
            if (length != fact(b, TYPE_CODES)) {
                return false;
            }
            for (int i = 0; i < length; i++) {
                if (codeAt(a, i) != codeAt(b, i)) {
                    return false;
                }
            }
            return true;
        }

        boolean covers(int general, int special) {
            int length = fact(general, TYPE_CODES);
            for (int i = 0; i < MOST_CODES; i++) {
                starts[i] = NONE;
            }
            int at = 0;
            for (int i = 0; i < length; i++) {
                int code = codeAt(general, i);
                int behind = at + 1;
                if (code >= CODE_VARIABLE) {
                    behind = endOf(special, at);
                    if (!standsFor(code - CODE_VARIABLE, special, at, behind)) {
                        return false;
                    }
                } else if (codeAt(special, at) != code) {
                    return false;
                }
                at = behind;
            }
            return true;
        }

        /** No row begins another row, so the same codes from the earlier place are the same type. */
        private boolean standsFor(int variable, int part, int from, int behind) {
            if (variable < 0 || variable >= MOST_CODES) {
                return false;
            }
            if (starts[variable] == NONE) {
                starts[variable] = from;
                return true;
            }
            int earlier = starts[variable];
            for (int i = 0; i < behind - from; i++) {
                if (codeAt(part, earlier + i) != codeAt(part, from + i)) {
                    return false;
                }
            }
            return true;
        }

        private int endOf(int part, int from) {
            int length = fact(part, TYPE_CODES);
            int open = 1;
            int at = from;
            while (open > 0 && at < length) {
                open += isPair(codeAt(part, at)) ? 1 : -1;
                at++;
            }
            return at;
        }

        private boolean isPair(int code) {
            return code == CODE_WHEEL || code == CODE_AXLE;
        }
    }

    /**
     * Types while they are found: nodes that share what they have in common, since written out they
     * can grow without measure behind the part that made them.
     */
    private static final class Types {
        // A part of 60 has at most 40 names, which build at most 60 nodes each; the others take 3.
        private static final int ROOM = 2600;
        private static final int STACK = 2 * ROOM + 8;
        private static final int KIND_VARIABLE = 4;
        private static final int KIND_GIVEN = 5;
        // In a row: this and a node's number, a variable that stays the same wherever it is used.
        private static final int CODE_NODE = 100;

        private final int[] kind = new int[ROOM];
        private final int[] left = new int[ROOM];
        private final int[] right = new int[ROOM];
        private final int[] mark = new int[ROOM];
        private final int[] work = new int[STACK];
        private final int[] pairLeft = new int[STACK];
        private final int[] pairRight = new int[STACK];
        private final int[] seats = new int[MOST_CODES];
        private int seated;
        private int used;
        private int stamp;

        void clear() {
            used = 0;
            // these two nodes bear the numbers of their codes
            make(CODE_WEIGHT, NONE, NONE);
            make(CODE_FLAG, NONE, NONE);
        }

        int make(int sort, int one, int two) {
            if (used < 0 || used >= ROOM) {
                return CODE_WEIGHT;
            }
            kind[used] = sort;
            left[used] = one;
            right[used] = two;
            used++;
            return used - 1;
        }

        int newVariable() {
            return make(KIND_VARIABLE, NONE, NONE);
        }

        int codeOfNode(int node) {
            return CODE_NODE + node;
        }

        void forgetMarks() {
            stamp++;
        }

        boolean isNode(int code) {
            return code >= CODE_NODE;
        }

        int nodeOfCode(int code) {
            return code - CODE_NODE;
        }

        void markWithin(int type) {
            int top = 1;
            work[0] = type;
            for (int step = 0; top > 0 && step < MANY_STEPS; step++) {
                top--;
                int node = resolve(work[top]);
                if (mark[node] != stamp) {
                    mark[node] = stamp;
                    if (isPair(kind[node]) && top + 2 <= STACK) {
                        work[top] = right[node];
                        work[top + 1] = left[node];
                        top += 2;
                    }
                }
            }
        }

        private int resolve(int type) {
            int node = type;
            for (int step = 0; step < ROOM && node >= 0 && node < ROOM && kind[node] == KIND_GIVEN; step++) {
                node = left[node];
            }
            return node >= 0 && node < ROOM ? node : CODE_WEIGHT;
        }

        private boolean isPair(int sort) {
            return sort == CODE_WHEEL || sort == CODE_AXLE;
        }

        /** Makes two types the same; answers the first fault that is met. */
        int match(int one, int two) {
            int top = putPair(0, one, two);
            for (int step = 0; top > 0 && step < MANY_STEPS; step++) {
                top--;
                if (pairLeft[top] < 0) {
                    give(NONE - pairLeft[top], pairRight[top]);
                    continue;
                }
                int a = resolve(pairLeft[top]);
                int b = resolve(pairRight[top]);
                if (a == b) {
                    continue;
                }
                if (kind[a] == KIND_VARIABLE || kind[b] == KIND_VARIABLE) {
                    int variable = kind[a] == KIND_VARIABLE ? a : b;
                    int other = variable == a ? b : a;
                    forgetMarks();
                    markWithin(other);
                    if (mark[variable] == stamp) {
                        return FAULT_WITHIN_ITSELF;
                    }
                    give(variable, other);
                } else if (kind[a] != kind[b]) {
                    return FAULT_OTHER_KIND;
                } else {
                    // When both types in them are the same, the one stands for the other one, so
                    // that what they share is not compared again at each place where it is.
                    top = putPair(top, NONE - a, b);
                    top = putPair(top, right[a], right[b]);
                    top = putPair(top, left[a], left[b]);
                }
            }
            return NO_FAULT;
        }

        private int putPair(int top, int one, int two) {
            if (top < 0 || top >= STACK) {
                return top;
            }
            pairLeft[top] = one;
            pairRight[top] = two;
            return top + 1;
        }

        private void give(int node, int type) {
            int to = resolve(type);
            if (node >= 0 && node < ROOM && node != to) {
                kind[node] = KIND_GIVEN;
                left[node] = to;
            }
        }

        /** Writes a type into a row; a marked variable as its node. Answers more than fits if too long. */
        int write(int type, int[] row) {
            int length = 0;
            int top = 1;
            seated = 0;
            work[0] = type;
            // each type that waits takes a code at least
            while (top > 0 && length + top <= row.length && top + 2 <= STACK) {
                top--;
                int node = resolve(work[top]);
                row[length] = codeOf(node);
                length++;
                if (isPair(kind[node])) {
                    work[top] = right[node];
                    work[top + 1] = left[node];
                    top += 2;
                }
            }
            return top > 0 ? row.length + 1 : length;
        }

        private int codeOf(int node) {
            if (node < 0 || node >= ROOM) {
                return CODE_WEIGHT;
            }
            if (kind[node] != KIND_VARIABLE) {
                return kind[node];
            }
            return mark[node] == stamp ? codeOfNode(node) : CODE_VARIABLE + seatOf(node);
        }

        private int seatOf(int variable) {
            for (int i = 0; i < seated && i < MOST_CODES; i++) {
                if (seats[i] == variable) {
                    return i;
                }
            }
            if (seated >= 0 && seated < MOST_CODES) {
                seats[seated] = variable;
                seated++;
            }
            return seated - 1;
        }

        /** Makes the type of a row, with new variables; backwards, so that what is in a type is ahead. */
        int build(int[] row, int length) {
            for (int i = 0; i < MOST_CODES; i++) {
                seats[i] = NONE;
            }
            int top = 0;
            for (int i = Math.min(length, row.length) - 1; i >= 0; i--) {
                int code = row[i];
                int node = code;
                if (isPair(code)) {
                    if (top < 2) {
                        return CODE_WEIGHT;
                    }
                    node = make(code, work[top - 1], work[top - 2]);
                    top -= 2;
                } else if (isNode(code)) {
                    node = nodeOfCode(code);
                } else if (code >= CODE_VARIABLE) {
                    node = variableAt(code - CODE_VARIABLE);
                }
                if (top < STACK) {
                    work[top] = node;
                    top++;
                }
            }
            return top > 0 ? work[top - 1] : CODE_WEIGHT;
        }

        private int variableAt(int seat) {
            if (seat < 0 || seat >= MOST_CODES) {
                return CODE_WEIGHT;
            }
            if (seats[seat] == NONE) {
                seats[seat] = make(KIND_VARIABLE, NONE, NONE);
            }
            return seats[seat];
        }
    }

    /**
     * The names around the part that is just found, each with its type as a row: its own variables
     * by their codes, the others as nodes, which may still be made more special.
     */
    private static final class Names {
        private final int[] labels = new int[MOST_PARTS];
        private final int[][] codes = new int[MOST_PARTS][MOST_CODES];
        private final int[] lengths = new int[MOST_PARTS];
        private int around;

        void clear() {
            around = 0;
        }

        void put(int label, int[] row, int length) {
            if (around < 0 || around >= MOST_PARTS) {
                return;
            }
            int[] into = codes[around];
            for (int i = 0; i < length && i < row.length && i < into.length; i++) {
                into[i] = row[i];
            }
            labels[around] = label;
            lengths[around] = Math.min(length, into.length);
            around++;
        }

        void markAll(Types types) {
            types.forgetMarks();
            for (int i = 0; i < around && i < MOST_PARTS; i++) {
                int[] row = codes[i];
                for (int place = 0; place < lengths[i] && place < row.length; place++) {
                    if (types.isNode(row[place])) {
                        types.markWithin(types.nodeOfCode(row[place]));
                    }
                }
            }
        }

        void dropLast() {
            if (around > 0) {
                around--;
            }
        }

        int latest(int label) {
            for (int i = Math.min(around, MOST_PARTS) - 1; i >= 0; i--) {
                if (labels[i] == label) {
                    return i;
                }
            }
            return NONE;
        }

        int[] rowAt(int at) {
            return at >= 0 && at < MOST_PARTS ? codes[at] : codes[0];
        }

        int lengthAt(int at) {
            return at >= 0 && at < MOST_PARTS ? lengths[at] : 0;
        }
    }

    /** Finds the type of a part, in the order that the document tells. */
    private static final class Finder {
        private final Types types = new Types();
        private final Names names = new Names();
        private final int[] row = new int[MOST_CODES];
        private int fault;
        private int place;

        void settle(Parts parts, int part, Rows rows) {
            types.clear();
            names.clear();
            fault = NO_FAULT;
            place = NONE;
            int found = find(parts, part, 0);
            if (found == NONE) {
                rows.putFault(part, fault, place);
                return;
            }
            types.forgetMarks();
            rows.putRow(part, row, types.write(found, row));
        }

        /** Both have no names around them, so their rows are all that the turning can see of them. */
        int faultOfTurning(Rows rows, int wheel, int by) {
            types.clear();
            int turned = buildRow(rows, wheel);
            int turning = buildRow(rows, by);
            int answer = types.newVariable();
            int met = types.match(turned, types.make(CODE_WHEEL, turning, answer));
            if (met != NO_FAULT) {
                return met;
            }
            return isTooLong(answer) ? FAULT_TOO_LONG : NO_FAULT;
        }

        private int buildRow(Rows rows, int part) {
            int length = rows.fact(part, TYPE_CODES);
            for (int i = 0; i < length && i < MOST_CODES; i++) {
                row[i] = rows.codeAt(part, i);
            }
            return types.build(row, length);
        }

        private boolean isTooLong(int found) {
            return types.write(found, row) > MOST_CODES;
        }

        private int fail(int met, int part) {
            fault = met;
            place = part;
            return NONE;
        }

        /** Answers the node of the type, NONE with a fault. */
        private int find(Parts parts, int part, int level) {
            if (level >= MOST_PARTS) {
                return fail(FAULT_TOO_LONG, part);
            }
            int found = CODE_WEIGHT;
            switch (parts.fact(part, PART_SORT)) {
                case SORT_FLAG:
                    found = CODE_FLAG;
                    break;
                case SORT_NAME:
                    found = findName(parts, part);
                    break;
                case SORT_WHEEL:
                    found = findWheel(parts, part, level);
                    break;
                case SORT_TURNING:
                    found = findTurning(parts, part, level);
                    break;
                case SORT_TELLING:
                    found = findTelling(parts, part, level);
                    break;
                case SORT_AXLE:
                    found = findAxle(parts, part, level);
                    break;
                case SORT_END:
                    found = findEnd(parts, part, level);
                    break;
                case SORT_CHOICE:
                    found = findChoice(parts, part, level);
                    break;
                default:
                    break;
            }
            if (found != NONE && isTooLong(found)) {
                return fail(FAULT_TOO_LONG, part);
            }
            return found;
        }

        private int findName(Parts parts, int part) {
            int at = names.latest(parts.fact(part, PART_LABEL));
            if (at == NONE) {
                return fail(FAULT_NO_NAME, part);
            }
            return types.build(names.rowAt(at), names.lengthAt(at));
        }

        private int findWheel(Parts parts, int part, int level) {
            int from = types.newVariable();
            row[0] = types.codeOfNode(from);
            names.put(parts.fact(part, PART_LABEL), row, 1);
            int to = find(parts, parts.fact(part, PART_FIRST), level + 1);
            names.dropLast();
            return to == NONE ? NONE : types.make(CODE_WHEEL, from, to);
        }

        private int findTurning(Parts parts, int part, int level) {
            int turned = find(parts, parts.fact(part, PART_FIRST), level + 1);
            if (turned == NONE) {
                return NONE;
            }
            int turning = find(parts, parts.fact(part, PART_SECOND), level + 1);
            if (turning == NONE) {
                return NONE;
            }
            int answer = types.newVariable();
            int met = types.match(turned, types.make(CODE_WHEEL, turning, answer));
            return met == NO_FAULT ? answer : fail(met, part);
        }

        private int findTelling(Parts parts, int part, int level) {
            int told = find(parts, parts.fact(part, PART_FIRST), level + 1);
            if (told == NONE) {
                return NONE;
            }
            // what is marked is in a type around the telling; it stays the same wherever it is used
            names.markAll(types);
            int length = types.write(told, row);
            names.put(parts.fact(part, PART_LABEL), row, length);
            int inside = find(parts, parts.fact(part, PART_SECOND), level + 1);
            names.dropLast();
            return inside;
        }

        private int findAxle(Parts parts, int part, int level) {
            int one = find(parts, parts.fact(part, PART_FIRST), level + 1);
            if (one == NONE) {
                return NONE;
            }
            int two = find(parts, parts.fact(part, PART_SECOND), level + 1);
            return two == NONE ? NONE : types.make(CODE_AXLE, one, two);
        }

        private int findEnd(Parts parts, int part, int level) {
            int whole = find(parts, parts.fact(part, PART_FIRST), level + 1);
            if (whole == NONE) {
                return NONE;
            }
            int one = types.newVariable();
            int two = types.newVariable();
            int met = types.match(whole, types.make(CODE_AXLE, one, two));
            if (met != NO_FAULT) {
                return fail(met, part);
            }
            return parts.fact(part, PART_LABEL) == 0 ? one : two;
        }

        private int findChoice(Parts parts, int part, int level) {
            int chooser = find(parts, parts.fact(part, PART_FIRST), level + 1);
            if (chooser == NONE) {
                return NONE;
            }
            int met = types.match(chooser, CODE_FLAG);
            if (met != NO_FAULT) {
                return fail(met, part);
            }
            int one = find(parts, parts.fact(part, PART_SECOND), level + 1);
            if (one == NONE) {
                return NONE;
            }
            int two = find(parts, parts.fact(part, PART_THIRD), level + 1);
            if (two == NONE) {
                return NONE;
            }
            met = types.match(one, two);
            return met == NO_FAULT ? one : fail(met, part);
        }
    }
}
