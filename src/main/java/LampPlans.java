/** Lamps in a plan of rooms: what they light, told by a text, changed, undone and kept. */
public final class LampPlans {
    public static final int BAD = -1, STATE = -2, FULL = -3, NONE = -9;
    public static final int NO = -1000;

    private static final int FIRST_SIZE = 6, LEAST_SIZE = 2, MOST_SIZE = 9;
    private static final int SIDES = 4, MOST_WALLS = 14, MOST_LAMPS = 8;
    private static final int MOST_SPOTS = MOST_SIZE * MOST_SIZE;
    private static final int MOST_POINTS = (MOST_SIZE + 1) * (MOST_SIZE + 1);
    private static final int MOST_LETTERS = 120, MOST_LETTER = 255;
    private static final int MOST_UNDONE = 10, MOST_SEEN = 6, IMAGES = 2;
    private static final int FAULT_BASE = -10;

    // X, Y stand first in the rows of walls, of lamps and of what is seen alike.
    private static final int PART_X = 0, PART_Y = 1;
    private static final int PART_LENGTH = 2, PART_UP = 3, WALL_PARTS = 4;
    private static final int PART_ON = 2, LAMP_PARTS = 3;
    private static final int PART_IS = 2, SEEN_PARTS = 3;
    private static final int RIGHT = 0, UP = 1;

    private final Plan now = new Plan();
    private final Plan told = new Plan();
    private final Text text = new Text();
    private final Past past = new Past();
    private final Light light = new Light();
    private final Ray ray = new Ray();
    private final Plan[] images = new Plan[IMAGES];
    private final boolean[] kept = new boolean[IMAGES];
    private final int[] seenRows = new int[MOST_SEEN * SEEN_PARTS];
    private int seenCount;

    public LampPlans() {
        for (int i = 0; i < IMAGES; i++) {
            images[i] = new Plan();
        }
        now.begin(FIRST_SIZE, FIRST_SIZE);
    }

    // ---- what is told

    public int type(int letter) {
        if (letter < 0 || letter > MOST_LETTER) {
            return BAD;
        }
        if (text.length >= MOST_LETTERS) {
            return FULL;
        }
        text.add((char) letter);
        return text.length;
    }

    public int clear() {
        int had = text.length;
        text.length = 0;
        return had;
    }

    public int plan() {
        int items = text.tell(told);
        if (items < 0) {
            return items;
        }
        now.copyFrom(told);
        text.length = 0;
        past.size = 0;
        seenCount = 0;
        for (int i = 0; i < IMAGES; i++) {
            kept[i] = false;
        }
        return items;
    }

    public int wall(int w, int what) {
        if (!now.hasWall(w) || what < 0 || what >= WALL_PARTS) {
            return BAD;
        }
        return now.wallPart(w, what);
    }

    public int lamp(int l, int what) {
        if (!now.hasLamp(l) || what < 0 || what >= LAMP_PARTS) {
            return BAD;
        }
        return now.lampPart(l, what);
    }

    // ---- what is done

    public int puts(int x, int y) {
        if (!now.hasSpot(x, y)) {
            return BAD;
        }
        if (now.hasLampAt(x, y)) {
            return STATE;
        }
        if (now.lampCount >= MOST_LAMPS) {
            return FULL;
        }
        past.remember(now);
        now.addLamp(x, y);
        return now.lampCount;
    }

    public int takes(int l) {
        if (!now.hasLamp(l)) {
            return BAD;
        }
        past.remember(now);
        now.removeLamp(l);
        return now.lampCount;
    }

    public int switches(int l) {
        if (!now.hasLamp(l)) {
            return BAD;
        }
        past.remember(now);
        return now.switchLamp(l);
    }

    public int builds(int x, int y, int length, int up) {
        if (!now.canHoldWall(x, y, length, up)) {
            return BAD;
        }
        if (now.wallCount >= MOST_WALLS) {
            return FULL;
        }
        past.remember(now);
        now.addWall(x, y, length, up);
        return now.wallCount;
    }

    public int breaks(int w) {
        if (!now.hasInnerWall(w)) {
            return BAD;
        }
        past.remember(now);
        now.removeWall(w);
        return now.wallCount;
    }

    public int undo() {
        if (past.size <= 0) {
            return STATE;
        }
        past.restore(now);
        return past.size;
    }

    // ---- what is lit

    public int lit(int l, int x, int y) {
        if (!now.hasLamp(l) || !now.hasSpot(x, y)) {
            return BAD;
        }
        return Light.isFree(now, now.lampPart(l, PART_X), now.lampPart(l, PART_Y), x, y, NONE) ? 1 : 0;
    }

    public int by(int x, int y) {
        if (!now.hasSpot(x, y)) {
            return BAD;
        }
        return Light.lampsOnAt(now, x, y);
    }

    public int lights(int l) {
        if (!now.hasLamp(l)) {
            return BAD;
        }
        return light.spotsLitBy(now, 1 << l, NONE);
    }

    public int all() {
        return light.spotsLitBy(now, now.lampsOn(), NONE);
    }

    // ---- the ray

    public int events(int l) {
        if (!now.hasLamp(l)) {
            return BAD;
        }
        ray.turnRound(now, l);
        return ray.size;
    }

    public int event(int l, int k, int what) {
        if (!now.hasLamp(l) || k < 0 || what < 0 || what > 1) {
            return NO;
        }
        ray.turnRound(now, l);
        if (k >= ray.size) {
            return NO;
        }
        return what == 0 ? ray.eventX[k] : ray.eventY[k];
    }

    public int sector(int l, int k, int what) {
        if (!now.hasLamp(l) || k < 0 || what < 0 || what > 2) {
            return BAD;
        }
        ray.turnRound(now, l);
        if (k >= ray.size) {
            return NONE;
        }
        int met = ray.wallOfSector(now, k);
        if (what == 0 || met < 0) {
            return met;
        }
        ray.measure(now, k, met);
        return what == 1 ? ray.areaUpper : ray.areaLower;
    }

    public int walls(int l) {
        if (!now.hasLamp(l)) {
            return BAD;
        }
        ray.turnRound(now, l);
        int bits = 0;
        for (int k = 0; k < ray.size; k++) {
            int met = ray.wallOfSector(now, k);
            if (met >= 0) {
                bits |= 1 << met;
            }
        }
        return bits;
    }

    // ---- fewest, best, worst

    public int fewest() {
        int everyLamp = (1 << now.lampCount) - 1;
        light.shine(now, everyLamp, NONE);
        int fewestLamps = everyLamp;
        // From the least bits upwards, so that of sets of one size the least is kept.
        for (int lamps = 0; lamps < everyLamp; lamps++) {
            if (Integer.bitCount(lamps) < Integer.bitCount(fewestLamps) && light.isEnough(now, lamps)) {
                fewestLamps = lamps;
            }
        }
        return fewestLamps;
    }

    public int best(int what) {
        if (what < 0 || what > 2) {
            return BAD;
        }
        light.shine(now, now.lampsOn(), NONE);
        int bestX = NONE, bestY = NONE, bestMore = NONE;
        for (int y = 0; y < now.height; y++) {
            for (int x = 0; x < now.width; x++) {
                int more = now.hasLampAt(x, y) ? NONE : light.darkSpotsSeenFrom(now, x, y);
                if (more > bestMore) {
                    bestX = x;
                    bestY = y;
                    bestMore = more;
                }
            }
        }
        return what == 0 ? bestX : what == 1 ? bestY : bestMore;
    }

    public int gain(int w) {
        if (!now.hasInnerWall(w)) {
            return BAD;
        }
        int lampsOn = now.lampsOn();
        return light.spotsLitBy(now, lampsOn, w) - light.spotsLitBy(now, lampsOn, NONE);
    }

    public int worst() {
        int worstWall = NONE, mostLit = 0;
        for (int w = SIDES; w < now.wallCount; w++) {
            int spots = light.spotsLitBy(now, now.lampsOn(), w);
            if (worstWall == NONE || spots > mostLit) {
                worstWall = w;
                mostLit = spots;
            }
        }
        return worstWall;
    }

    // ---- which lamp

    public int sees(int x, int y, int is) {
        if (!now.hasSpot(x, y) || is < 0 || is > 1) {
            return BAD;
        }
        if (seenCount >= MOST_SEEN) {
            return FULL;
        }
        int row = seenCount * SEEN_PARTS;
        seenRows[row + PART_X] = x;
        seenRows[row + PART_Y] = y;
        seenRows[row + PART_IS] = is;
        seenCount++;
        return seenCount;
    }

    public int forget() {
        int had = seenCount;
        seenCount = 0;
        return had;
    }

    public int unseen() {
        int possible = now.lampsOn();
        for (int s = 0; s < seenCount; s++) {
            possible &= lampsThatMayBeOut(s * SEEN_PARTS);
        }
        return possible;
    }

    /** The lamps without any of which the spot of this row is lit, or dark, as it was seen. */
    private int lampsThatMayBeOut(int row) {
        int lighting = Light.lampsOnAt(now, seenRows[row + PART_X], seenRows[row + PART_Y]);
        int lamps = 0;
        for (int l = 0; l < now.lampCount; l++) {
            int is = (lighting & ~(1 << l)) != 0 ? 1 : 0;
            if (is == seenRows[row + PART_IS]) {
                lamps |= 1 << l;
            }
        }
        return lamps;
    }

    // ---- images

    public int keep(int image) {
        if (image < 0 || image >= IMAGES) {
            return BAD;
        }
        images[image].copyFrom(now);
        kept[image] = true;
        return now.lampCount;
    }

    public int back(int image) {
        if (image < 0 || image >= IMAGES) {
            return BAD;
        }
        if (!kept[image]) {
            return STATE;
        }
        now.copyFrom(images[image]);
        past.size = 0;
        return now.lampCount;
    }

    public int count(int what) {
        switch (what) {
            case 0: return now.width;
            case 1: return now.height;
            case 2: return now.wallCount;
            case 3: return now.lampCount;
            case 4: return seenCount;
            case 5: return text.length;
            case 6: return past.size;
            default: return BAD;
        }
    }

    /** All that an image keeps and that can be undone, so that one copy serves both. */
    private static final class Plan {
        int width, height, wallCount, lampCount;
        final int[] wallRows = new int[MOST_WALLS * WALL_PARTS];
        final int[] lampRows = new int[MOST_LAMPS * LAMP_PARTS];

        void begin(int newWidth, int newHeight) {
            width = newWidth;
            height = newHeight;
            wallCount = 0;
            lampCount = 0;
            addWall(0, 0, width, RIGHT);
            addWall(width, 0, height, UP);
            addWall(0, height, width, RIGHT);
            addWall(0, 0, height, UP);
        }

        void copyFrom(Plan other) {
            width = other.width;
            height = other.height;
            wallCount = other.wallCount;
            lampCount = other.lampCount;
            System.arraycopy(other.wallRows, 0, wallRows, 0, wallRows.length);
            System.arraycopy(other.lampRows, 0, lampRows, 0, lampRows.length);
        }

        boolean hasWall(int w) {
            return w >= 0 && w < wallCount;
        }

        boolean hasInnerWall(int w) {
            return w >= SIDES && w < wallCount;
        }

        boolean hasLamp(int l) {
            return l >= 0 && l < lampCount;
        }

        boolean hasSpot(int x, int y) {
            return x >= 0 && x < width && y >= 0 && y < height;
        }

        boolean hasLampAt(int x, int y) {
            for (int l = 0; l < lampCount; l++) {
                if (lampPart(l, PART_X) == x && lampPart(l, PART_Y) == y) {
                    return true;
                }
            }
            return false;
        }

        boolean canHoldWall(int x, int y, int length, int up) {
            if (x < 0 || x > width || y < 0 || y > height || length < 1) {
                return false;
            }
            return up == UP ? length <= height - y : up == RIGHT && length <= width - x;
        }

        int wallPart(int w, int part) {
            return wallRows[w * WALL_PARTS + part];
        }

        int lampPart(int l, int part) {
            return lampRows[l * LAMP_PARTS + part];
        }

        int lampsOn() {
            int bits = 0;
            for (int l = 0; l < lampCount; l++) {
                bits |= lampPart(l, PART_ON) << l;
            }
            return bits;
        }

        void addWall(int x, int y, int length, int up) {
            if (wallCount >= MOST_WALLS) {
                return;
            }
            int row = wallCount * WALL_PARTS;
            wallRows[row + PART_X] = x;
            wallRows[row + PART_Y] = y;
            wallRows[row + PART_LENGTH] = length;
            wallRows[row + PART_UP] = up;
            wallCount++;
        }

        void addLamp(int x, int y) {
            if (lampCount >= MOST_LAMPS) {
                return;
            }
            int row = lampCount * LAMP_PARTS;
            lampRows[row + PART_X] = x;
            lampRows[row + PART_Y] = y;
            lampRows[row + PART_ON] = 1;
            lampCount++;
        }

        void removeWall(int w) {
            closeGap(wallRows, w * WALL_PARTS, WALL_PARTS, wallCount * WALL_PARTS);
            wallCount--;
        }

        void removeLamp(int l) {
            closeGap(lampRows, l * LAMP_PARTS, LAMP_PARTS, lampCount * LAMP_PARTS);
            lampCount--;
        }

        int switchLamp(int l) {
            int place = l * LAMP_PARTS + PART_ON;
            lampRows[place] = 1 - lampRows[place];
            return lampRows[place];
        }

        private static void closeGap(int[] rows, int from, int parts, int end) {
            for (int i = from; i + parts < end; i++) {
                rows[i] = rows[i + parts];
            }
        }
    }

    /** The plans ahead of the latest changes, in a ring, so that the oldest is lost by itself. */
    private static final class Past {
        final Plan[] ring = new Plan[MOST_UNDONE];
        int next, size;

        Past() {
            for (int i = 0; i < MOST_UNDONE; i++) {
                ring[i] = new Plan();
            }
        }

        void remember(Plan plan) {
            ring[next].copyFrom(plan);
            next = next + 1 < MOST_UNDONE ? next + 1 : 0;
            size = Math.min(size + 1, MOST_UNDONE);
        }

        void restore(Plan plan) {
            next = next > 0 ? next - 1 : MOST_UNDONE - 1;
            plan.copyFrom(ring[next]);
            size--;
        }
    }

    /** The text, and how it is read: token by token, up to the first that can't stand. */
    private static final class Text {
        static final int END = -1, NUMBER = -2, NO_NUMBER = -1;

        final char[] letters = new char[MOST_LETTERS];
        int length;
        // Of the token read last: where it begins, what it is, its number; and where the next one is sought.
        int start, sign, number, place;

        void add(char letter) {
            if (length < MOST_LETTERS) {
                letters[length] = letter;
                length++;
            }
        }

        /** How many items there are, or the answer to a fault: what is in plan is of no use then. */
        int tell(Plan plan) {
            plan.begin(FIRST_SIZE, FIRST_SIZE);
            place = 0;
            for (int items = 0; items <= MOST_LETTERS; items++) {
                readToken();
                if (sign == END) {
                    return items;
                }
                if (!readItem(plan, items)) {
                    return FAULT_BASE - start;
                }
            }
            return FAULT_BASE - start;
        }

        private boolean readItem(Plan plan, int itemsAhead) {
            switch (sign) {
                case 'b': return itemsAhead == 0 && readSize(plan);
                case 'r': return plan.wallCount < MOST_WALLS && readWall(plan, RIGHT);
                case 'u': return plan.wallCount < MOST_WALLS && readWall(plan, UP);
                case 'l': return plan.lampCount < MOST_LAMPS && readLamp(plan);
                default: return false;
            }
        }

        private boolean readSize(Plan plan) {
            if (!readNumber(LEAST_SIZE, MOST_SIZE)) {
                return false;
            }
            int width = number;
            if (!readNumber(LEAST_SIZE, MOST_SIZE)) {
                return false;
            }
            plan.begin(width, number);
            return readItemEnd();
        }

        private boolean readWall(Plan plan, int up) {
            // A wall needs one step more that way, so its first point can't be on the far side.
            if (!readNumber(0, up == UP ? plan.width : plan.width - 1)) {
                return false;
            }
            int x = number;
            if (!readNumber(0, up == UP ? plan.height - 1 : plan.height)) {
                return false;
            }
            int y = number;
            if (!readNumber(1, up == UP ? plan.height - y : plan.width - x)) {
                return false;
            }
            plan.addWall(x, y, number, up);
            return readItemEnd();
        }

        private boolean readLamp(Plan plan) {
            if (!readNumber(0, plan.width - 1)) {
                return false;
            }
            int x = number;
            if (!readNumber(0, plan.height - 1) || plan.hasLampAt(x, number)) {
                return false;
            }
            plan.addLamp(x, number);
            return readItemEnd();
        }

        private boolean readNumber(int least, int most) {
            readToken();
            return sign == NUMBER && number >= least && number <= most;
        }

        private boolean readItemEnd() {
            readToken();
            return sign == ';';
        }

        private void readToken() {
            while (place < length && letters[place] == ' ') {
                place++;
            }
            start = place;
            sign = END;
            if (place >= length) {
                return;
            }
            sign = letters[place];
            if (isFigure(letters[place])) {
                number = letters[place] - '0';
                sign = NUMBER;
            }
            place++;
            // Two figures are above 9 or have a 0 ahead: no place takes such a number.
            while (sign == NUMBER && place < length && isFigure(letters[place])) {
                number = NO_NUMBER;
                place++;
            }
        }

        private static boolean isFigure(char letter) {
            return letter >= '0' && letter <= '9';
        }
    }

    /** Which spots are lit. Places are told in halves, so that middles of squares are whole (and odd). */
    private static final class Light {
        final int[] litBy = new int[MOST_SPOTS];

        /** Whether the line between two spots is free; the wall `without` is thought away. */
        static boolean isFree(Plan plan, int fromX, int fromY, int toX, int toY, int without) {
            // No side can stand between two spots.
            for (int w = SIDES; w < plan.wallCount; w++) {
                if (w != without && isStopped(plan, w, fromX, fromY, toX, toY)) {
                    return false;
                }
            }
            return true;
        }

        private static boolean isStopped(Plan plan, int w, int fromX, int fromY, int toX, int toY) {
            boolean up = plan.wallPart(w, PART_UP) == UP;
            int line = 2 * plan.wallPart(w, up ? PART_X : PART_Y);
            int across = 2 * (up ? fromX : fromY) + 1;
            int acrossEnd = 2 * (up ? toX : toY) + 1;
            if (across < line == acrossEnd < line) {
                return false;
            }
            int along = 2 * (up ? fromY : fromX) + 1;
            int alongEnd = 2 * (up ? toY : toX) + 1;
            int begin = 2 * plan.wallPart(w, up ? PART_Y : PART_X);
            int end = begin + 2 * plan.wallPart(w, PART_LENGTH);
            // All is multiplied by the step across, so that nothing is divided.
            int step = acrossEnd - across;
            int met = along * step + (alongEnd - along) * (line - across);
            return step > 0
                    ? begin * step <= met && met <= end * step
                    : end * step <= met && met <= begin * step;
        }

        static int lampsOnAt(Plan plan, int x, int y) {
            return lampsAt(plan, x, y, plan.lampsOn(), NONE);
        }

        private static int lampsAt(Plan plan, int x, int y, int lamps, int without) {
            int bits = 0;
            for (int l = 0; l < plan.lampCount; l++) {
                if ((lamps >> l & 1) == 1
                        && isFree(plan, plan.lampPart(l, PART_X), plan.lampPart(l, PART_Y), x, y, without)) {
                    bits |= 1 << l;
                }
            }
            return bits;
        }

        /** Fills litBy: for each spot, row by row, those of the lamps that light it. */
        void shine(Plan plan, int lamps, int without) {
            int spot = 0;
            for (int y = 0; y < plan.height; y++) {
                for (int x = 0; x < plan.width; x++) {
                    litBy[spot] = lampsAt(plan, x, y, lamps, without);
                    spot++;
                }
            }
        }

        int spotsLitBy(Plan plan, int lamps, int without) {
            shine(plan, lamps, without);
            int spots = 0;
            for (int spot = 0; spot < plan.width * plan.height; spot++) {
                if (litBy[spot] != 0) {
                    spots++;
                }
            }
            return spots;
        }

        /** Whether these lamps light each spot that is lit in litBy. */
        boolean isEnough(Plan plan, int lamps) {
            for (int spot = 0; spot < plan.width * plan.height; spot++) {
                if (litBy[spot] != 0 && (litBy[spot] & lamps) == 0) {
                    return false;
                }
            }
            return true;
        }

        /** How many spots that are dark in litBy a lamp here would light. */
        int darkSpotsSeenFrom(Plan plan, int fromX, int fromY) {
            int spots = 0, spot = 0;
            for (int y = 0; y < plan.height; y++) {
                for (int x = 0; x < plan.width; x++) {
                    if (litBy[spot] == 0 && isFree(plan, fromX, fromY, x, y, NONE)) {
                        spots++;
                    }
                    spot++;
                }
            }
            return spots;
        }
    }

    /** A ray turned round a lamp: its events in order, and what it meets between them. In halves, too. */
    private static final class Ray {
        final int[] eventX = new int[MOST_POINTS];
        final int[] eventY = new int[MOST_POINTS];
        int size, lampX, lampY, areaUpper, areaLower;

        void turnRound(Plan plan, int l) {
            lampX = 2 * plan.lampPart(l, PART_X) + 1;
            lampY = 2 * plan.lampPart(l, PART_Y) + 1;
            size = 0;
            for (int y = 0; y <= plan.height; y++) {
                for (int x = 0; x <= plan.width; x++) {
                    if (isEventPoint(plan, x, y)) {
                        addEvent(2 * x - lampX, 2 * y - lampY);
                    }
                }
            }
        }

        private static boolean isEventPoint(Plan plan, int x, int y) {
            boolean onRight = false, onUp = false;
            for (int w = 0; w < plan.wallCount; w++) {
                boolean up = plan.wallPart(w, PART_UP) == UP;
                int fromX = x - plan.wallPart(w, PART_X);
                int fromY = y - plan.wallPart(w, PART_Y);
                int along = up ? fromY : fromX;
                int length = plan.wallPart(w, PART_LENGTH);
                if ((up ? fromX : fromY) != 0 || along < 0 || along > length) {
                    continue;
                }
                if (along == 0 || along == length) {
                    return true;
                }
                onRight = onRight || !up;
                onUp = onUp || up;
            }
            return onRight && onUp;
        }

        private void addEvent(int farX, int farY) {
            int divisor = commonDivisor(farX, farY);
            if (divisor <= 0 || size >= MOST_POINTS) {
                return;
            }
            int x = farX / divisor, y = farY / divisor;
            int at = 0;
            while (at < size && isAhead(eventX[at], eventY[at], x, y)) {
                at++;
            }
            if (at < size && eventX[at] == x && eventY[at] == y) {
                return;
            }
            for (int i = size; i > at; i--) {
                eventX[i] = eventX[i - 1];
                eventY[i] = eventY[i - 1];
            }
            eventX[at] = x;
            eventY[at] = y;
            size++;
        }

        /** Whether the ray comes to x, y ahead of otherX, otherY; neither y can be 0. */
        private static boolean isAhead(int x, int y, int otherX, int otherY) {
            if (y > 0 != otherY > 0) {
                return y > 0;
            }
            return x * otherY - y * otherX > 0;
        }

        private int eventBehind(int k) {
            return k + 1 < size ? k + 1 : 0;
        }

        /** The wall that the ray meets first between event k and the next; k is below size. */
        int wallOfSector(Plan plan, int k) {
            int behind = eventBehind(k);
            // The sum of two directions is between them, since four corners leave no half turn.
            int x = eventX[k] + eventX[behind], y = eventY[k] + eventY[behind];
            int first = NONE, firstGap = 0, firstStep = 0;
            for (int w = 0; w < plan.wallCount; w++) {
                boolean up = plan.wallPart(w, PART_UP) == UP;
                int step = Math.abs(up ? x : y);
                int gap = (up ? x : y) < 0 ? -gapTo(plan, w) : gapTo(plan, w);
                if (step == 0 || gap < 0 || !isOnWall(plan, w, (up ? y : x) * gap, step)) {
                    continue;
                }
                // gap / step tells how far it is; the first of several at one place stays.
                if (first == NONE || gap * firstStep < firstGap * step) {
                    first = w;
                    firstGap = gap;
                    firstStep = step;
                }
            }
            return first;
        }

        /** From the lamp straight to the line of a wall, below 0 to the left or down. */
        private int gapTo(Plan plan, int w) {
            return plan.wallPart(w, PART_UP) == UP
                    ? 2 * plan.wallPart(w, PART_X) - lampX
                    : 2 * plan.wallPart(w, PART_Y) - lampY;
        }

        /** Whether a wall's line is met on the wall, at moved / step from the lamp along it. */
        private boolean isOnWall(Plan plan, int w, int moved, int step) {
            boolean up = plan.wallPart(w, PART_UP) == UP;
            int begin = 2 * plan.wallPart(w, up ? PART_Y : PART_X) - (up ? lampY : lampX);
            int end = begin + 2 * plan.wallPart(w, PART_LENGTH);
            return begin * step <= moved && moved <= end * step;
        }

        /** Sets the area of sector k, whose wall is w. */
        void measure(Plan plan, int k, int w) {
            int behind = eventBehind(k);
            boolean up = plan.wallPart(w, PART_UP) == UP;
            int turn = eventX[k] * eventY[behind] - eventY[k] * eventX[behind];
            int gap = gapTo(plan, w);
            int steps = up ? eventX[k] * eventX[behind] : eventY[k] * eventY[behind];
            // Half of base times height, each of them in halves: 8 below.
            int upper = turn * gap * gap, lower = 8 * Math.abs(steps);
            int divisor = commonDivisor(upper, lower);
            areaUpper = divisor > 0 ? upper / divisor : upper;
            areaLower = divisor > 0 ? lower / divisor : lower;
        }

        private static int commonDivisor(int one, int other) {
            int a = Math.abs(one), b = Math.abs(other);
            // Two ints never need as many as 50 turns.
            for (int turn = 0; turn < 50 && b != 0; turn++) {
                int rest = a % b;
                a = b;
                b = rest;
            }
            return a;
        }
    }
}
