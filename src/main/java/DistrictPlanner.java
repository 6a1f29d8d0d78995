import java.util.Arrays;
import java.util.NoSuchElementException;

/** Plans districts on small maps. What its methods answer is promised in ../shared/DOC.md, in the order of this file. */
public final class DistrictPlanner {
    private static final int MOST_UNITS = 12;
    private static final int MOST_LISTED_UNITS = 9;
    private static final int MOST_DISTRICTS = 4;
    private static final int FEWEST_DISTRICTS = 2;
    private static final int MOST_TOLERANCE = 99;
    private static final int COMMUNITIES = 4;
    private static final int MEASURES = 4;
    private static final int NO_MEASURE = -1;
    private static final int MOST_INPUT = 80;
    private static final int MOST_STEPS = 20;
    private static final int ROWS = 3;
    private static final int MOST_CHANGES = 8;
    private static final int FAULT = -100;
    // Nine units fall into four districts in 7770 ways, into fewer districts in fewer ways.
    private static final int MOST_PLANS = 7770;

    private static final int NO_UNITS = 1;
    private static final int NOT_CONTIGUOUS = 2;
    private static final int SPLIT_CORES = 3;
    private static final int NOT_BALANCED = 4;
    private static final int NO_NEIGHBOR = 5;

    private final char[] input = new char[MOST_INPUT];
    private int inputLength = 0;
    private int impossibleStatement = -1;
    private int keptReason = 0;
    private int keptDetail = 0;
    private boolean hasSnapshot = false;
    private final World now = new World();
    private final World draft = new World();
    private final World snapshot = new World();
    private final Plan behind = new Plan();
    private final TextReader reader = new TextReader();
    private final Judge judge = new Judge();
    private final Search search = new Search();
    private final Catalog catalog = new Catalog();
    private final History history = new History();
    private final Fraction value = new Fraction();
    private final Row[] rows = new Row[ROWS];

    public DistrictPlanner() {
        for (int row = 0; row < ROWS; row++) {
            rows[row] = new Row();
        }
    }

    public int feed(char character) throws IllegalStateException {
        if (inputLength >= MOST_INPUT) {
            throw new IllegalStateException("the input is full");
        }
        input[inputLength] = character;
        inputLength++;
        return inputLength;
    }

    public int extend() throws UnsupportedOperationException {
        int length = inputLength;
        inputLength = 0;
        int fault = reader.findFault(input, length);
        if (fault >= 0) {
            return FAULT - fault;
        }
        draft.copyFrom(now);
        int statement = reader.carryOut(input, length, draft);
        if (statement >= 0) {
            impossibleStatement = statement;
            throw new UnsupportedOperationException("a statement is impossible");
        }
        history.remember(now);
        now.copyFrom(draft);
        forgetPlans();
        return now.units;
    }

    public int impossible() throws NoSuchElementException {
        if (impossibleStatement < 0) {
            throw new NoSuchElementException("no statement was impossible");
        }
        return impossibleStatement;
    }

    public int clearMap() {
        int previous = now.units;
        history.remember(now);
        now.removeUnits();
        forgetPlans();
        return previous;
    }

    public int unit(int unit, int what) throws IndexOutOfBoundsException, IllegalArgumentException {
        checkUnit(unit);
        switch (what) {
            case 0:
                return now.population[unit];
            case 1:
                return now.area[unit];
            case 2:
                return now.community[unit];
            case 3:
                return now.cores >> unit & 1;
            case 4:
                return now.outer[unit];
            case 5:
                return now.neighbors[unit];
            case 6:
                return now.hasPlan ? now.plan.places[unit] : -1;
            case 7:
                return now.isAtEdge(unit) ? 1 : 0;
            default:
                throw new IllegalArgumentException("no such property of a unit");
        }
    }

    public int border(int unit, int other) throws IndexOutOfBoundsException {
        checkUnit(unit);
        checkUnit(other);
        return now.lengthBetween(unit, other);
    }

    public int count(int what) throws IllegalArgumentException {
        switch (what) {
            case 0:
                return now.units;
            case 1:
                return now.countBorders();
            case 2:
                return now.populationOf(now.allUnits());
            case 3:
                return now.areaOf(now.allUnits());
            case 4:
                return now.districts;
            case 5:
                return now.tolerance;
            case 6:
                return now.hasPlan ? 1 : 0;
            case 7:
                return now.countParts();
            case 8:
                return now.countCommunities(now.allUnits());
            case 9:
                return inputLength;
            default:
                throw new IllegalArgumentException("no such count");
        }
    }

    public int setDistricts(int districts) throws IllegalArgumentException {
        if (districts < FEWEST_DISTRICTS || districts > MOST_DISTRICTS) {
            throw new IllegalArgumentException("the number of districts is from 2 to 4");
        }
        int previous = now.districts;
        history.remember(now);
        now.districts = districts;
        forgetPlans();
        return previous;
    }

    public int setTolerance(int tolerance) throws IllegalArgumentException {
        if (tolerance < 0 || tolerance > MOST_TOLERANCE) {
            throw new IllegalArgumentException("the tolerance is from 0 to 99");
        }
        int previous = now.tolerance;
        history.remember(now);
        now.tolerance = tolerance;
        forgetPlans();
        return previous;
    }

    public int readPlan() throws IllegalStateException {
        int length = inputLength;
        // "In any case" holds for the exception, too.
        inputLength = 0;
        if (now.units == 0) {
            throw new IllegalStateException("the map is empty");
        }
        int fault = findPlanFault(length);
        if (fault >= 0) {
            return FAULT - fault;
        }
        behind.clear();
        for (int unit = 0; unit < now.units; unit++) {
            behind.give(unit, districtOf(input[unit]));
        }
        if (judge.judgePlan(now, behind) != 0) {
            keepRefusal();
            return judge.reason;
        }
        becomePresent(behind);
        return 0;
    }

    public int move(int unit, int district) throws IndexOutOfBoundsException, IllegalStateException,
            IllegalArgumentException, UnsupportedOperationException {
        checkMove(unit, district);
        if (judge.judgeMove(now, unit, district, behind) != 0) {
            keepRefusal();
            throw new UnsupportedOperationException("the move is refused");
        }
        int previous = now.plan.places[unit];
        becomePresent(behind);
        return previous;
    }

    public int swap(int unit, int other) throws IndexOutOfBoundsException, IllegalStateException,
            IllegalArgumentException, UnsupportedOperationException {
        checkUnit(unit);
        checkUnit(other);
        checkPlan();
        if (now.plan.places[unit] == now.plan.places[other]) {
            throw new IllegalArgumentException("both units are in the same district");
        }
        if (judge.judgeSwap(now, unit, other, behind) != 0) {
            keepRefusal();
            throw new UnsupportedOperationException("the swap is refused");
        }
        int previous = now.plan.places[unit];
        becomePresent(behind);
        return previous;
    }

    public int refuses(int unit, int district) throws IndexOutOfBoundsException, IllegalStateException,
            IllegalArgumentException {
        checkMove(unit, district);
        return judge.judgeMove(now, unit, district, behind);
    }

    public int refusal(boolean isDetail) throws NoSuchElementException {
        if (keptReason == 0) {
            throw new NoSuchElementException("nothing was refused");
        }
        return isDetail ? keptDetail : keptReason;
    }

    public int district(int district, int what) throws IndexOutOfBoundsException,
            IllegalArgumentException, IllegalStateException {
        checkDistrict(district);
        if (what < 0 || what > 6) {
            throw new IllegalArgumentException("no such property of a district");
        }
        checkPlan();
        int set = now.plan.sets[district];
        switch (what) {
            case 0:
                return Integer.bitCount(set);
            case 1:
                return set;
            case 2:
                return now.populationOf(set);
            case 3:
                return now.areaOf(set);
            case 4:
                return now.perimeterOf(set);
            case 5:
                return now.districtsAround(district);
            default:
                return now.countCommunities(set);
        }
    }

    public long measure(int measure, boolean isDenominator) throws IllegalArgumentException,
            IllegalStateException {
        checkMeasure(measure);
        checkPlan();
        Scale.weigh(now, now.plan, measure, value);
        return isDenominator ? value.bottom : value.top;
    }

    public float meanCompactness() throws IllegalStateException {
        checkPlan();
        float sum = 0;
        for (int district = 0; district < now.districts; district++) {
            sum = sum + Scale.roughCompactness(now, now.plan.sets[district]);
        }
        return sum / (float) now.districts;
    }

    public int improve(int measure) throws IllegalArgumentException, IllegalStateException {
        checkMeasure(measure);
        checkPlan();
        history.remember(now);
        for (int steps = 0; steps < MOST_STEPS; steps++) {
            search.begin(now, measure);
            search.tryMoves(now, judge);
            search.trySwaps(now, judge);
            if (!search.hasFound) {
                return steps;
            }
            now.plan.copyFrom(search.found);
        }
        return MOST_STEPS;
    }

    public int possible(boolean isSwaps) throws IllegalStateException {
        checkPlan();
        search.begin(now, NO_MEASURE);
        return isSwaps ? search.trySwaps(now, judge) : search.tryMoves(now, judge);
    }

    public int plans() throws IllegalStateException {
        checkListed();
        return catalog.countPlans(now);
    }

    public int counted() throws IllegalStateException {
        checkListed();
        return catalog.countBySets(now);
    }

    public int planned(int plan, int unit) throws IllegalStateException, IndexOutOfBoundsException,
            NoSuchElementException {
        checkListed();
        checkUnit(unit);
        checkListedPlan(plan);
        catalog.copyPlan(plan, now, behind);
        return behind.places[unit];
    }

    public int best(int measure) throws IllegalArgumentException, IllegalStateException,
            NoSuchElementException {
        checkMeasure(measure);
        checkListed();
        if (catalog.countPlans(now) == 0) {
            throw new NoSuchElementException("there are no plans");
        }
        return catalog.findBest(now, measure);
    }

    public int choose(int plan) throws IllegalStateException, NoSuchElementException {
        checkListed();
        checkListedPlan(plan);
        catalog.copyPlan(plan, now, behind);
        int different = 0;
        for (int unit = 0; unit < now.units; unit++) {
            if (!now.hasPlan || now.plan.places[unit] != behind.places[unit]) {
                different++;
            }
        }
        becomePresent(behind);
        return different;
    }

    public int store(int row, boolean isExact) throws IndexOutOfBoundsException, IllegalStateException {
        if (!isRow(row)) {
            throw new IndexOutOfBoundsException("no such row");
        }
        checkPlan();
        rows[row].takeFrom(now, isExact);
        return rows[row].size;
    }

    public int copyRow(int from, int to, int count) throws IllegalArgumentException,
            NoSuchElementException, UnsupportedOperationException, IndexOutOfBoundsException {
        if (!isRow(from) || !isRow(to)) {
            throw new IllegalArgumentException("no such row");
        }
        Row source = rows[from];
        Row target = rows[to];
        if (source.isMissing() || target.isMissing()) {
            throw new NoSuchElementException("a row is missing");
        }
        if (source.isExact != target.isExact) {
            throw new UnsupportedOperationException("one row has whole numbers, the other one floats");
        }
        if (count < 0 || count > source.size || count > target.size) {
            throw new IndexOutOfBoundsException("a row does not have so many elements");
        }
        target.takeElements(source, count);
        return target.sum();
    }

    public int bits(int row, int i) throws IndexOutOfBoundsException, NoSuchElementException {
        if (!isRow(row)) {
            throw new IndexOutOfBoundsException("no such row");
        }
        if (i < 0 || i >= rows[row].size) {
            throw new NoSuchElementException("no such element");
        }
        return Row.bitsOf(rows[row].element(i));
    }

    public int undo() throws IllegalStateException {
        if (history.size == 0) {
            throw new IllegalStateException("no change can be undone");
        }
        history.giveBack(now);
        catalog.forget();
        return history.size;
    }

    public int saveSnapshot() {
        snapshot.copyFrom(now);
        hasSnapshot = true;
        return now.units;
    }

    public int restoreSnapshot() throws IllegalStateException {
        if (!hasSnapshot) {
            throw new IllegalStateException("no snapshot was saved");
        }
        now.copyFrom(snapshot);
        history.forget();
        catalog.forget();
        return now.units;
    }

    public char letter(int unit) throws IndexOutOfBoundsException, IllegalStateException {
        checkUnit(unit);
        checkPlan();
        return (char) ('A' + now.plan.places[unit]);
    }

    private void checkUnit(int unit) {
        if (unit < 0 || unit >= now.units) {
            throw new IndexOutOfBoundsException("no such unit");
        }
    }

    private void checkDistrict(int district) {
        if (district < 0 || district >= now.districts) {
            throw new IndexOutOfBoundsException("no such district");
        }
    }

    private void checkPlan() {
        if (!now.hasPlan) {
            throw new IllegalStateException("there is no present plan");
        }
    }

    private void checkMove(int unit, int district) {
        checkUnit(unit);
        checkDistrict(district);
        checkPlan();
        if (now.plan.places[unit] == district) {
            throw new IllegalArgumentException("the unit belongs to this district");
        }
    }

    private void checkMeasure(int measure) {
        if (measure < 0 || measure >= MEASURES) {
            throw new IllegalArgumentException("no such measure");
        }
    }

    private void checkListed() {
        if (now.units < 1 || now.units > MOST_LISTED_UNITS) {
            throw new IllegalStateException("all plans are told for 1 to 9 units");
        }
    }

    private void checkListedPlan(int plan) {
        if (plan < 0 || plan >= catalog.countPlans(now)) {
            throw new NoSuchElementException("no such plan");
        }
    }

    private static boolean isRow(int row) {
        return row >= 0 && row < ROWS;
    }

    // Behind a change of map, number or tolerance a plan need not be lawful any more,
    // neither the present one nor those of the catalog.
    private void forgetPlans() {
        now.dropPlan();
        catalog.forget();
    }

    private void keepRefusal() {
        keptReason = judge.reason;
        keptDetail = judge.detail;
    }

    private void becomePresent(Plan plan) {
        history.remember(now);
        now.plan.copyFrom(plan);
        now.hasPlan = true;
    }

    private int findPlanFault(int length) {
        for (int i = 0; i < length; i++) {
            if (i >= now.units || districtOf(input[i]) < 0) {
                return i;
            }
        }
        return length < now.units ? length : -1;
    }

    private int districtOf(char letter) {
        int upper = letter - 'A';
        if (upper >= 0 && upper < now.districts) {
            return upper;
        }
        int lower = letter - 'a';
        return lower >= 0 && lower < now.districts ? lower : -1;
    }

    /** The district of each unit, and the same the other way round as sets, bit u for unit u. */
    private static final class Plan {
        final int[] places = new int[MOST_UNITS];
        final int[] sets = new int[MOST_DISTRICTS];

        void clear() {
            Arrays.fill(places, 0);
            Arrays.fill(sets, 0);
        }

        void copyFrom(Plan other) {
            System.arraycopy(other.places, 0, places, 0, MOST_UNITS);
            System.arraycopy(other.sets, 0, sets, 0, MOST_DISTRICTS);
        }

        void give(int unit, int district) {
            sets[places[unit]] &= ~(1 << unit);
            places[unit] = district;
            sets[district] |= 1 << unit;
        }

        boolean splits(int set) {
            for (int district = 0; district < MOST_DISTRICTS; district++) {
                int inside = sets[district] & set;
                if (inside != 0 && inside != set) {
                    return true;
                }
            }
            return false;
        }
    }

    /** What undo and snapshots keep: map, number of districts, tolerance and present plan. */
    private static final class World {
        int units = 0;
        final int[] population = new int[MOST_UNITS];
        final int[] area = new int[MOST_UNITS];
        final int[] community = new int[MOST_UNITS];
        final int[] outer = new int[MOST_UNITS];
        final int[] neighbors = new int[MOST_UNITS];
        final int[] lengths = new int[MOST_UNITS * MOST_UNITS];
        int cores = 0;
        int districts = FEWEST_DISTRICTS;
        int tolerance = 10;
        boolean hasPlan = false;
        final Plan plan = new Plan();

        void copyFrom(World other) {
            units = other.units;
            System.arraycopy(other.population, 0, population, 0, MOST_UNITS);
            System.arraycopy(other.area, 0, area, 0, MOST_UNITS);
            System.arraycopy(other.community, 0, community, 0, MOST_UNITS);
            System.arraycopy(other.outer, 0, outer, 0, MOST_UNITS);
            System.arraycopy(other.neighbors, 0, neighbors, 0, MOST_UNITS);
            System.arraycopy(other.lengths, 0, lengths, 0, MOST_UNITS * MOST_UNITS);
            cores = other.cores;
            districts = other.districts;
            tolerance = other.tolerance;
            hasPlan = other.hasPlan;
            plan.copyFrom(other.plan);
        }

        void removeUnits() {
            units = 0;
            cores = 0;
            Arrays.fill(neighbors, 0);
            Arrays.fill(lengths, 0);
        }

        void dropPlan() {
            hasPlan = false;
            plan.clear();
        }

        boolean addUnit(int people, int ground, int group, boolean isCore) {
            if (units >= MOST_UNITS || people == 0 || ground == 0 || group >= COMMUNITIES) {
                return false;
            }
            population[units] = people;
            area[units] = ground;
            community[units] = group;
            outer[units] = 0;
            if (isCore) {
                cores |= 1 << units;
            }
            units++;
            return true;
        }

        boolean setLength(int unit, int other, int length) {
            if (unit >= units || other >= units || unit == other) {
                return false;
            }
            if (length == 0 && lengthBetween(unit, other) == 0) {
                return false;
            }
            lengths[unit * MOST_UNITS + other] = length;
            lengths[other * MOST_UNITS + unit] = length;
            neighbors[unit] &= ~(1 << other);
            neighbors[other] &= ~(1 << unit);
            if (length > 0) {
                neighbors[unit] |= 1 << other;
                neighbors[other] |= 1 << unit;
            }
            return true;
        }

        boolean setOuter(int unit, int length) {
            if (unit >= units) {
                return false;
            }
            outer[unit] = length;
            return true;
        }

        int lengthBetween(int unit, int other) {
            return lengths[unit * MOST_UNITS + other];
        }

        int allUnits() {
            return (1 << units) - 1;
        }

        boolean isAtEdge(int unit) {
            return hasPlan && (neighbors[unit] & ~plan.sets[plan.places[unit]]) != 0;
        }

        int countBorders() {
            int twice = 0;
            for (int unit = 0; unit < units; unit++) {
                twice += Integer.bitCount(neighbors[unit]);
            }
            return twice / 2;
        }

        int populationOf(int set) {
            int sum = 0;
            for (int unit = 0; unit < units; unit++) {
                if ((set >> unit & 1) != 0) {
                    sum += population[unit];
                }
            }
            return sum;
        }

        int areaOf(int set) {
            int sum = 0;
            for (int unit = 0; unit < units; unit++) {
                if ((set >> unit & 1) != 0) {
                    sum += area[unit];
                }
            }
            return sum;
        }

        int perimeterOf(int set) {
            int sum = 0;
            for (int unit = 0; unit < units; unit++) {
                if ((set >> unit & 1) != 0) {
                    sum += outer[unit] + lengthToOutside(unit, set);
                }
            }
            return sum;
        }

        private int lengthToOutside(int unit, int set) {
            int sum = 0;
            for (int other = 0; other < units; other++) {
                if ((set >> other & 1) == 0) {
                    sum += lengths[unit * MOST_UNITS + other];
                }
            }
            return sum;
        }

        int districtsAround(int district) {
            int touched = 0;
            for (int unit = 0; unit < units; unit++) {
                if (plan.places[unit] == district) {
                    touched |= neighbors[unit];
                }
            }
            int around = 0;
            for (int other = 0; other < districts; other++) {
                if (other != district && (touched & plan.sets[other]) != 0) {
                    around |= 1 << other;
                }
            }
            return around;
        }

        int membersOf(int group) {
            int members = 0;
            for (int unit = 0; unit < units; unit++) {
                if (community[unit] == group) {
                    members |= 1 << unit;
                }
            }
            return members;
        }

        int coresOf(int group) {
            return membersOf(group) & cores;
        }

        int countCommunities(int set) {
            int sum = 0;
            for (int group = 0; group < COMMUNITIES; group++) {
                if ((membersOf(group) & set) != 0) {
                    sum++;
                }
            }
            return sum;
        }

        int countParts() {
            int parts = 0;
            int left = allUnits();
            while (left != 0 && parts < units) {
                left &= ~reach(left);
                parts++;
            }
            return parts;
        }

        /** The units of a set that its lowest unit reaches by neighbors within it. */
        private int reach(int set) {
            int reached = set & -set;
            for (int round = 0; round < MOST_UNITS; round++) {
                int before = reached;
                for (int unit = 0; unit < units; unit++) {
                    if ((reached >> unit & 1) != 0) {
                        reached |= neighbors[unit] & set;
                    }
                }
                if (reached == before) {
                    break;
                }
            }
            return reached;
        }

        boolean isContiguous(int set) {
            return reach(set) == set;
        }

        int imbalanceOf(int set) {
            return Math.abs(populationOf(set) * districts - populationOf(allUnits()));
        }

        boolean isBalanced(int set) {
            return 100 * imbalanceOf(set) <= tolerance * populationOf(allUnits());
        }

        boolean splitsCores(int set) {
            for (int group = 0; group < COMMUNITIES; group++) {
                int members = coresOf(group);
                int inside = members & set;
                if (inside != 0 && inside != members) {
                    return true;
                }
            }
            return false;
        }
    }

    /** Goes through a text; where it stops before a text ends is the fault position. */
    private static final class TextReader {
        private char[] text = new char[0];
        private int length = 0;
        private int at = 0;
        private int number = 0;
        private int kind = 0;
        private int first = 0;
        private int second = 0;
        private int third = 0;
        private boolean isCore = false;

        int findFault(char[] signs, int size) {
            begin(signs, size);
            for (int statement = 0; statement < MOST_INPUT; statement++) {
                if (!readStatement()) {
                    return at;
                }
                if (at == length) {
                    return -1;
                }
                if (!take(';')) {
                    return at;
                }
            }
            return at;
        }

        /** The number of the first statement that is impossible, or -1; for texts without a fault. */
        int carryOut(char[] signs, int size, World world) {
            begin(signs, size);
            for (int statement = 0; statement < MOST_INPUT && readStatement(); statement++) {
                if (!carryOutStatement(world)) {
                    return statement;
                }
                if (!take(';')) {
                    return -1;
                }
            }
            return -1;
        }

        private void begin(char[] signs, int size) {
            text = signs;
            length = Math.min(size, signs.length);
            at = 0;
        }

        private boolean carryOutStatement(World world) {
            if (kind == 'u') {
                return world.addUnit(first, second, third, isCore);
            }
            if (kind == 'b') {
                return world.setLength(first, second, third);
            }
            return world.setOuter(first, second);
        }

        private boolean readStatement() {
            kind = at < length ? text[at] : 0;
            if (take('u')) {
                return readUnit();
            }
            if (take('b')) {
                return readBorder();
            }
            return take('o') && readOuter();
        }

        private boolean readUnit() {
            third = -1;
            isCore = false;
            if (!readNumber()) {
                return false;
            }
            first = number;
            if (!take('/') || !readNumber()) {
                return false;
            }
            second = number;
            if (!take('@')) {
                return true;
            }
            if (!readDigit()) {
                return false;
            }
            third = number;
            isCore = take('!');
            return true;
        }

        private boolean readBorder() {
            if (!readNumber()) {
                return false;
            }
            first = number;
            if (!take('-') || !readNumber()) {
                return false;
            }
            second = number;
            if (!take(':') || !readDigit()) {
                return false;
            }
            third = number;
            return true;
        }

        private boolean readOuter() {
            if (!readNumber()) {
                return false;
            }
            first = number;
            if (!take(':') || !readDigit()) {
                return false;
            }
            second = number;
            return true;
        }

        private boolean readNumber() {
            if (!readDigit()) {
                return false;
            }
            int tens = number;
            if (readDigit()) {
                number += 10 * tens;
            }
            return true;
        }

        private boolean readDigit() {
            if (at >= length || text[at] < '0' || text[at] > '9') {
                return false;
            }
            number = text[at] - '0';
            at++;
            return true;
        }

        private boolean take(char sign) {
            if (at >= length || text[at] != sign) {
                return false;
            }
            at++;
            return true;
        }
    }

    /** Tells why a plan, a move or a swap is refused; the reason 0 means that it is not. */
    private static final class Judge {
        int reason = 0;
        int detail = 0;

        private int tell(int newReason, int newDetail) {
            reason = newReason;
            detail = newDetail;
            return newReason;
        }

        int judgePlan(World world, Plan plan) {
            for (int district = 0; district < world.districts; district++) {
                if (plan.sets[district] == 0) {
                    return tell(NO_UNITS, district);
                }
            }
            for (int district = 0; district < world.districts; district++) {
                if (!world.isContiguous(plan.sets[district])) {
                    return tell(NOT_CONTIGUOUS, district);
                }
            }
            for (int group = 0; group < COMMUNITIES; group++) {
                if (plan.splits(world.coresOf(group))) {
                    return tell(SPLIT_CORES, group);
                }
            }
            for (int district = 0; district < world.districts; district++) {
                if (!world.isBalanced(plan.sets[district])) {
                    return tell(NOT_BALANCED, district);
                }
            }
            return tell(0, 0);
        }

        int judgeMove(World world, int unit, int district, Plan behind) {
            if ((world.neighbors[unit] & world.plan.sets[district]) == 0) {
                return tell(NO_NEIGHBOR, unit);
            }
            behind.copyFrom(world.plan);
            behind.give(unit, district);
            return judgePlan(world, behind);
        }

        int judgeSwap(World world, int unit, int other, Plan behind) {
            int from = world.plan.places[unit];
            int to = world.plan.places[other];
            if ((world.neighbors[unit] & world.plan.sets[to]) == 0) {
                return tell(NO_NEIGHBOR, unit);
            }
            if ((world.neighbors[other] & world.plan.sets[from]) == 0) {
                return tell(NO_NEIGHBOR, other);
            }
            behind.copyFrom(world.plan);
            behind.give(unit, to);
            behind.give(other, from);
            return judgePlan(world, behind);
        }
    }

    private static final class Fraction {
        long top = 0;
        long bottom = 1;

        void become(long newTop, long newBottom) {
            long divisor = commonDivisor(newTop, newBottom);
            if (newTop == 0 || newBottom == 0 || divisor == 0) {
                top = 0;
                bottom = 1;
                return;
            }
            top = newTop / divisor;
            bottom = newBottom / divisor;
        }

        void copyFrom(Fraction other) {
            top = other.top;
            bottom = other.bottom;
        }

        int compareWith(Fraction other) {
            return Long.compare(top * other.bottom, other.top * bottom);
        }

        private static long commonDivisor(long one, long other) {
            long greater = one;
            long rest = other;
            for (int round = 0; round < 100 && rest != 0; round++) {
                long next = greater % rest;
                greater = rest;
                rest = next;
            }
            return greater;
        }
    }

    private static final class Scale {
        static void weigh(World world, Plan plan, int measure, Fraction result) {
            switch (measure) {
                case 0:
                    weighCompactness(world, plan, result);
                    break;
                case 1:
                    result.become(cutLength(world, plan), 1);
                    break;
                case 2:
                    result.become(countSplitCommunities(world, plan), 1);
                    break;
                default:
                    result.become(greatestImbalance(world, plan), world.populationOf(world.allUnits()));
                    break;
            }
        }

        static boolean isBetter(int measure, Fraction one, Fraction other) {
            int order = one.compareWith(other);
            return measure == 0 ? order > 0 : order < 0;
        }

        static float roughCompactness(World world, int set) {
            int perimeter = world.perimeterOf(set);
            if (perimeter == 0) {
                return 0;
            }
            return (float) (16 * world.areaOf(set)) / (float) (perimeter * perimeter);
        }

        private static void weighCompactness(World world, Plan plan, Fraction result) {
            long leastTop = 0;
            long leastBottom = 1;
            for (int district = 0; district < world.districts; district++) {
                long perimeter = world.perimeterOf(plan.sets[district]);
                long top = perimeter == 0 ? 0 : 16L * world.areaOf(plan.sets[district]);
                long bottom = perimeter == 0 ? 1 : perimeter * perimeter;
                if (district == 0 || top * leastBottom < leastTop * bottom) {
                    leastTop = top;
                    leastBottom = bottom;
                }
            }
            result.become(leastTop, leastBottom);
        }

        private static int cutLength(World world, Plan plan) {
            int sum = 0;
            for (int unit = 0; unit < world.units; unit++) {
                for (int other = unit + 1; other < world.units; other++) {
                    if (plan.places[unit] != plan.places[other]) {
                        sum += world.lengthBetween(unit, other);
                    }
                }
            }
            return sum;
        }

        private static int countSplitCommunities(World world, Plan plan) {
            int sum = 0;
            for (int group = 0; group < COMMUNITIES; group++) {
                if (plan.splits(world.membersOf(group))) {
                    sum++;
                }
            }
            return sum;
        }

        private static int greatestImbalance(World world, Plan plan) {
            int greatest = 0;
            for (int district = 0; district < world.districts; district++) {
                greatest = Math.max(greatest, world.imbalanceOf(plan.sets[district]));
            }
            return greatest;
        }
    }

    /** Goes through the moves and swaps that are not refused and finds the step of an improvement. */
    private static final class Search {
        final Plan found = new Plan();
        boolean hasFound = false;
        private int measure = NO_MEASURE;
        private final Plan behind = new Plan();
        private final Fraction best = new Fraction();
        private final Fraction tried = new Fraction();

        // To begin with the present plan and to take only what is better finds the same
        // as to find the first best one and to ask then if it is better than the present.
        void begin(World world, int newMeasure) {
            measure = newMeasure;
            hasFound = false;
            if (measure != NO_MEASURE) {
                Scale.weigh(world, world.plan, measure, best);
            }
        }

        /** The number of moves that are not refused. */
        int tryMoves(World world, Judge judge) {
            int sum = 0;
            for (int unit = 0; unit < world.units; unit++) {
                for (int district = 0; district < world.districts; district++) {
                    if (district != world.plan.places[unit]
                            && judge.judgeMove(world, unit, district, behind) == 0) {
                        consider(world);
                        sum++;
                    }
                }
            }
            return sum;
        }

        /** The number of swaps that are not refused. */
        int trySwaps(World world, Judge judge) {
            int sum = 0;
            for (int unit = 0; unit < world.units; unit++) {
                for (int other = unit + 1; other < world.units; other++) {
                    if (world.plan.places[unit] != world.plan.places[other]
                            && judge.judgeSwap(world, unit, other, behind) == 0) {
                        consider(world);
                        sum++;
                    }
                }
            }
            return sum;
        }

        private void consider(World world) {
            if (measure == NO_MEASURE) {
                return;
            }
            Scale.weigh(world, behind, measure, tried);
            if (Scale.isBetter(measure, tried, best)) {
                best.copyFrom(tried);
                found.copyFrom(behind);
                hasFound = true;
            }
        }
    }

    /** All plans of a small map, kept until map, number of districts or tolerance change. */
    private static final class Catalog {
        // A plan is kept as one number, two bits a unit.
        private final int[] codes = new int[MOST_PLANS];
        private final boolean[] isPossible = new boolean[1 << MOST_LISTED_UNITS];
        private final int[] sets = new int[MOST_DISTRICTS];
        private final Plan plan = new Plan();
        private final Fraction best = new Fraction();
        private final Fraction tried = new Fraction();
        private int size = 0;
        private boolean hasSets = false;
        private boolean hasPlans = false;

        void forget() {
            hasSets = false;
            hasPlans = false;
        }

        int countPlans(World world) {
            if (!hasPlans && world.units <= MOST_LISTED_UNITS) {
                findSets(world);
                size = 0;
                Arrays.fill(sets, 0);
                listFrom(this, world, 0, 0, 0);
                hasPlans = true;
            }
            return size;
        }

        int countBySets(World world) {
            if (world.units > MOST_LISTED_UNITS) {
                return 0;
            }
            findSets(world);
            return countFrom(this, world.allUnits(), world.districts);
        }

        void copyPlan(int number, World world, Plan target) {
            target.clear();
            if (number < 0 || number >= size) {
                return;
            }
            for (int unit = 0; unit < world.units; unit++) {
                target.give(unit, codes[number] >> 2 * unit & 3);
            }
        }

        int findBest(World world, int measure) {
            int first = 0;
            for (int number = 0; number < size; number++) {
                copyPlan(number, world, plan);
                Scale.weigh(world, plan, measure, tried);
                if (number == 0 || Scale.isBetter(measure, tried, best)) {
                    best.copyFrom(tried);
                    first = number;
                }
            }
            return first;
        }

        // Thousands of plans share a few hundred sets, so each set is looked at once.
        private void findSets(World world) {
            if (hasSets) {
                return;
            }
            int all = Math.min(world.allUnits(), isPossible.length - 1);
            for (int set = 0; set <= all; set++) {
                isPossible[set] = set != 0 && world.isBalanced(set) && !world.splitsCores(set)
                        && world.isContiguous(set);
            }
            hasSets = true;
        }

        private static void listFrom(Catalog catalog, World world, int unit, int used, int code) {
            if (unit >= world.units || unit >= MOST_LISTED_UNITS) {
                catalog.keepIfLawful(world.districts, used, code);
                return;
            }
            int highest = Math.min(used, world.districts - 1);
            for (int district = 0; district <= highest; district++) {
                catalog.sets[district] |= 1 << unit;
                listFrom(catalog, world, unit + 1, Math.max(used, district + 1),
                        code | district << 2 * unit);
                catalog.sets[district] &= ~(1 << unit);
            }
        }

        private void keepIfLawful(int districts, int used, int code) {
            if (used < districts || size >= MOST_PLANS) {
                return;
            }
            for (int district = 0; district < districts; district++) {
                if (!isPossible[sets[district]]) {
                    return;
                }
            }
            codes[size] = code;
            size++;
        }

        private static int countFrom(Catalog catalog, int free, int left) {
            if (left <= 1) {
                return catalog.isPossible[free] ? 1 : 0;
            }
            int lowest = free & -free;
            int others = free & ~lowest;
            int sum = 0;
            int part = others;
            for (int round = 0; round < 1 << MOST_LISTED_UNITS; round++) {
                if (catalog.isPossible[lowest | part]) {
                    sum += countFrom(catalog, others & ~part, left - 1);
                }
                if (part == 0) {
                    break;
                }
                part = part - 1 & others;
            }
            return sum;
        }
    }

    /** Numbers of districts: whole ones or floats. */
    private static final class Row {
        // A float keeps its exponent, where 127 stands for that of 1, above 23 bits of the fraction behind the point.
        private static final int ONE_EXPONENT = 127;
        private static final int FRACTION_BITS = 23;

        private final int[] whole = new int[MOST_DISTRICTS];
        private final float[] rough = new float[MOST_DISTRICTS];
        int size = 0;
        boolean isExact = false;

        boolean isMissing() {
            return size == 0;
        }

        void takeFrom(World world, boolean asExact) {
            size = world.districts;
            isExact = asExact;
            for (int district = 0; district < size; district++) {
                int set = world.plan.sets[district];
                if (asExact) {
                    whole[district] = world.populationOf(set);
                } else {
                    rough[district] = Scale.roughCompactness(world, set);
                }
            }
        }

        void takeElements(Row other, int count) {
            if (isExact) {
                System.arraycopy(other.whole, 0, whole, 0, count);
            } else {
                System.arraycopy(other.rough, 0, rough, 0, count);
            }
        }

        int sum() {
            int sum = 0;
            for (int i = 0; i < size; i++) {
                sum += isExact ? whole[i] : (int) rough[i];
            }
            return sum;
        }

        float element(int i) {
            return isExact ? (float) whole[i] : rough[i];
        }

        // The elements are 0 or between 1 / 10000 and 20000, so no other floats are treated.
        static int bitsOf(float number) {
            if (number <= 0) {
                return 0;
            }
            float rest = number;
            int exponent = ONE_EXPONENT;
            for (int round = 0; round < 126 && rest >= 2; round++) {
                rest = rest / 2;
                exponent++;
            }
            for (int round = 0; round < 126 && rest < 1; round++) {
                rest = rest * 2;
                exponent--;
            }
            int fraction = (int) ((rest - 1) * (1 << FRACTION_BITS));
            return (exponent << FRACTION_BITS) + fraction;
        }
    }

    /** The states before the latest changes, as a ring: the oldest one gives way. */
    private static final class History {
        private final World[] states = new World[MOST_CHANGES];
        private int next = 0;
        int size = 0;

        History() {
            for (int i = 0; i < MOST_CHANGES; i++) {
                states[i] = new World();
            }
        }

        void remember(World world) {
            states[next].copyFrom(world);
            next = (next + 1) % MOST_CHANGES;
            size = Math.min(size + 1, MOST_CHANGES);
        }

        void giveBack(World world) {
            next = (next + MOST_CHANGES - 1) % MOST_CHANGES;
            size--;
            world.copyFrom(states[next]);
        }

        void forget() {
            size = 0;
        }
    }
}
