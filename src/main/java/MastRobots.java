import java.util.Arrays;

/**
 * A library robot: cartridges on shelves around a mast, a pallet that has to be weighed ahead of
 * each turn, two drives, requests for files, neighbors, and orders as texts.
 */
public final class MastRobots {
    public static final int INVALID_ARGUMENT = -1000001;
    public static final int NOT_POSSIBLE = -1000002;
    public static final int LIMIT_REACHED = -1000003;
    public static final int NOT_FOUND = -1000004;

    private static final int NONE = -1;
    private static final int WALLS = 8;
    private static final int SHELVES_OF_WALL = 4;
    private static final int MOST_ON_PILE = 3;
    private static final int DRIVES = 2;
    private static final int MOST_CARTRIDGES = 30;
    private static final int GREATEST_WEIGHT = 20;
    private static final int WORN_FROM = 6;
    private static final int FILES = 60;
    private static final int MOST_FILES_HELD = 4;
    private static final int MOST_REQUESTS = 12;
    private static final int GREATEST_RANK = 9;
    private static final int GREATEST_RULE = 3;
    private static final int MOST_WALLS_A_TURN = 4;
    private static final int MOST_STATES = 4;
    private static final int MOST_SIGNS = 60;

    // Each place a cartridge can be at has a slot number, so that being at two places, or two
    // cartridges at one place, can't be told: shelves first, then the pile, then the drives.
    private static final int AT_NEIGHBOR = NONE;
    private static final int FIRST_OF_PILE = WALLS * SHELVES_OF_WALL;
    private static final int FIRST_OF_DRIVES = FIRST_OF_PILE + MOST_ON_PILE;
    private static final int SLOTS = FIRST_OF_DRIVES + DRIVES;

    private static final int ON_SHELF = 0;
    private static final int ON_PALLET = 1;
    private static final int IN_DRIVE = 2;
    private static final int WITH_NEIGHBOR = 3;

    private static final int BY_RANK = 1;
    private static final int BY_WAY = 2;
    private static final int BY_BATCH = 3;

    private static final int LIFT = 0;
    private static final int LAY = 1;
    private static final int WEIGH = 2;
    private static final int RIGHT = 3;
    private static final int LEFT = 4;
    private static final int MOUNT = 5;
    private static final int TAKE = 6;
    private static final int SERVE = 7;
    private static final int WORDS = 8;

    private static final int NO_FAULT = 0;
    private static final int BAD_FORM = 1;
    private static final int BAD_NUMBER = 2;
    private static final int CANNOT_BE_DONE = 3;

    private final Library now;
    // Every change is made here first: one that turns out to be an error leaves no trace.
    private final Library trial;
    private final History history;
    private final Orders orders;

    public MastRobots() {
        now = new Library();
        trial = new Library();
        history = new History();
        orders = new Orders();
    }

    // ---- neighbors

    public int bring(int weight, int wall, int shelf) {
        return keep(freshTrial().addCartridge(weight, wall, shelf));
    }

    public int send(int cartridge, int wall, int shelf) {
        return keep(freshTrial().exchange(cartridge, wall, shelf));
    }

    // ---- the robot

    public int lift(int shelf) {
        return keep(freshTrial().liftFrom(shelf));
    }

    public int lay(int shelf) {
        return keep(freshTrial().layOn(shelf));
    }

    public int weigh() {
        return keep(freshTrial().weighPallet());
    }

    public int turn(int walls) {
        return keep(freshTrial().turnBy(walls));
    }

    public int mount(int drive) {
        return keep(freshTrial().mountIn(drive));
    }

    public int take(int drive) {
        return keep(freshTrial().takeFrom(drive));
    }

    // ---- files, requests

    public int hold(int cartridge, int file) {
        return keep(freshTrial().holdFile(cartridge, file));
    }

    public int request(int file, int rank) {
        return keep(freshTrial().addRequest(file, rank));
    }

    public int serve(int rule) {
        return keep(freshTrial().serveBy(rule));
    }

    // ---- what there is

    public int cartridgeOf(int cartridge, int what) {
        if (!now.cartridges.has(cartridge)) {
            return INVALID_ARGUMENT;
        }
        switch (what) {
            case 0:
                return now.cartridges.weightOf(cartridge);
            case 1:
                return now.cartridges.wearOf(cartridge);
            case 2:
                return now.cartridges.kindOfPlaceOf(cartridge);
            case 3:
                return now.cartridges.placeOf(cartridge);
            case 4:
                return now.cartridges.filesHeldBy(cartridge);
            case 5:
                return now.waitingFor(cartridge);
            case 6:
                return now.cartridges.servedBy(cartridge);
            default:
                return INVALID_ARGUMENT;
        }
    }

    public int shelfOf(int wall, int shelf) {
        if (!isShelf(wall, shelf)) {
            return INVALID_ARGUMENT;
        }
        return found(now.cartridges.inSlot(shelfSlot(wall, shelf)));
    }

    public int holder(int file) {
        if (!isIn(file, 0, FILES - 1)) {
            return INVALID_ARGUMENT;
        }
        return found(now.cartridges.holderOf(file));
    }

    public int requestOf(int index, int what) {
        if (index < 0 || !isIn(what, 0, 2)) {
            return INVALID_ARGUMENT;
        }
        if (index >= now.requests.size) {
            return NOT_FOUND;
        }
        switch (what) {
            case 0:
                return now.requests.fileOf(index);
            case 1:
                return now.requests.rankOf(index);
            default:
                return now.requests.tickOf(index);
        }
    }

    // ---- what would be

    public int nextBy(int rule) {
        if (!isRule(rule)) {
            return INVALID_ARGUMENT;
        }
        return found(now.nextRequest(rule));
    }

    public int would(int rule, int what) {
        if (!isRule(rule) || !isIn(what, 0, 4)) {
            return INVALID_ARGUMENT;
        }
        int servedThen = freshTrial().serveBy(rule);
        if (servedThen < 0) {
            return NOT_POSSIBLE;
        }
        int cartridge = now.holderFor(now.nextRequest(rule));
        switch (what) {
            case 0:
                return trial.ticks - now.ticks;
            case 1:
                return trial.turns - now.turns;
            case 2:
                return servedThen;
            case 3:
                return now.driveFor(cartridge);
            default:
                return cartridge;
        }
    }

    public int wayTo(int wall) {
        if (!isIn(wall, 0, WALLS - 1)) {
            return INVALID_ARGUMENT;
        }
        freshTrial().goTo(wall);
        return trial.ticks - now.ticks;
    }

    public int wholeBatch(int rule, int what) {
        if (!isRule(rule) || !isIn(what, 0, 2)) {
            return INVALID_ARGUMENT;
        }
        int times = freshTrial().serveAllBy(rule);
        switch (what) {
            case 0:
                return trial.ticks - now.ticks;
            case 1:
                return times;
            default:
                return trial.requests.size;
        }
    }

    public int count(int what) {
        switch (what) {
            case 0:
                return now.ticks;
            case 1:
                return now.wall;
            case 2:
                return now.pileSize;
            case 3:
                return now.pileWeight;
            case 4:
                return now.weighed ? 1 : 0;
            case 5:
                return now.cartridges.size;
            case 6:
                return now.cartridges.withNeighbors();
            case 7:
                return now.cartridges.worn();
            case 8:
                return now.requests.size;
            case 9:
                return now.served;
            case 10:
                return now.turns;
            case 11:
                return found(now.inDrive(0));
            case 12:
                return found(now.inDrive(1));
            case 13:
                return now.cartridges.filesHeld();
            case 14:
                return history.size;
            case 15:
                return orders.length;
            default:
                return INVALID_ARGUMENT;
        }
    }

    public int undo() {
        return history.restore(now);
    }

    // ---- texts

    public int type(int character) {
        return orders.append(character);
    }

    public int clearText() {
        return orders.empty();
    }

    public int fault(int what) {
        if (!isIn(what, 0, 2)) {
            return INVALID_ARGUMENT;
        }
        orders.doAll(freshTrial());
        return orders.aboutFault(what);
    }

    public int play() {
        return keep(orders.doAll(freshTrial()));
    }

    private Library freshTrial() {
        trial.copyFrom(now);
        return trial;
    }

    private int keep(int answer) {
        // -1 is no error: hold answers it for a file that no cartridge held.
        if (answer >= NONE) {
            history.record(now);
            now.copyFrom(trial);
        }
        return answer;
    }

    private static int found(int answer) {
        return answer == NONE ? NOT_FOUND : answer;
    }

    private static boolean isIn(int number, int lowest, int greatest) {
        return number >= lowest && number <= greatest;
    }

    private static boolean isRule(int rule) {
        return isIn(rule, 0, GREATEST_RULE);
    }

    private static boolean isShelf(int wall, int shelf) {
        return isIn(wall, 0, WALLS - 1) && isIn(shelf, 0, SHELVES_OF_WALL - 1);
    }

    private static int shelfSlot(int wall, int shelf) {
        return SHELVES_OF_WALL * wall + shelf;
    }

    private static int wallOfDrive(int drive) {
        return drive == 0 ? 2 : 6;
    }

    private static int wallsToTheRight(int from, int to) {
        return (to - from + WALLS) % WALLS;
    }

    private static int distance(int from, int to) {
        int right = wallsToTheRight(from, to);
        return right <= WALLS / 2 ? right : WALLS - right;
    }

    private static int mostWallsWith(int weight) {
        if (weight <= 10) {
            return MOST_WALLS_A_TURN;
        }
        return weight <= 20 ? 2 : 1;
    }

    private static final class Rows {
        static void copy(int[] from, int[] to) {
            System.arraycopy(from, 0, to, 0, Math.min(from.length, to.length));
        }

        static int howOften(int[] row, int number) {
            int times = 0;
            for (int each : row) {
                if (each == number) {
                    times++;
                }
            }
            return times;
        }
    }

    /** The cartridges: what each is like, where it is, and which files it holds. */
    private static final class Cartridges {
        private final int[] weights = new int[MOST_CARTRIDGES];
        private final int[] wears = new int[MOST_CARTRIDGES];
        private final int[] requestsServed = new int[MOST_CARTRIDGES];
        private final int[] slots = new int[MOST_CARTRIDGES];
        private final int[] occupants = new int[SLOTS];
        private final int[] holders = new int[FILES];
        int size;

        Cartridges() {
            Arrays.fill(occupants, NONE);
            Arrays.fill(holders, NONE);
        }

        void copyFrom(Cartridges other) {
            Rows.copy(other.weights, weights);
            Rows.copy(other.wears, wears);
            Rows.copy(other.requestsServed, requestsServed);
            Rows.copy(other.slots, slots);
            Rows.copy(other.occupants, occupants);
            Rows.copy(other.holders, holders);
            size = other.size;
        }

        boolean has(int cartridge) {
            return isIn(cartridge, 0, size - 1);
        }

        int add(int weight, int slot) {
            int cartridge = size;
            if (cartridge < 0 || cartridge >= MOST_CARTRIDGES) {
                return LIMIT_REACHED;
            }
            size++;
            weights[cartridge] = weight;
            wears[cartridge] = 0;
            requestsServed[cartridge] = 0;
            slots[cartridge] = AT_NEIGHBOR;
            moveTo(cartridge, slot);
            return cartridge;
        }

        void moveTo(int cartridge, int slot) {
            if (cartridge < 0 || cartridge >= slots.length) {
                return;
            }
            int from = slots[cartridge];
            if (from >= 0 && from < occupants.length) {
                occupants[from] = NONE;
            }
            slots[cartridge] = slot;
            if (slot >= 0 && slot < occupants.length) {
                occupants[slot] = cartridge;
            }
        }

        void countMounting(int cartridge, int served) {
            if (cartridge >= 0 && cartridge < wears.length && cartridge < requestsServed.length) {
                wears[cartridge]++;
                requestsServed[cartridge] += served;
            }
        }

        void putFile(int cartridge, int file) {
            if (file >= 0 && file < holders.length) {
                holders[file] = cartridge;
            }
        }

        int weightOf(int cartridge) {
            return cartridge >= 0 && cartridge < weights.length ? weights[cartridge] : 0;
        }

        int wearOf(int cartridge) {
            return cartridge >= 0 && cartridge < wears.length ? wears[cartridge] : 0;
        }

        int servedBy(int cartridge) {
            return cartridge >= 0 && cartridge < requestsServed.length
                    ? requestsServed[cartridge] : 0;
        }

        int slotOf(int cartridge) {
            return cartridge >= 0 && cartridge < slots.length ? slots[cartridge] : AT_NEIGHBOR;
        }

        int inSlot(int slot) {
            return slot >= 0 && slot < occupants.length ? occupants[slot] : NONE;
        }

        int holderOf(int file) {
            return file >= 0 && file < holders.length ? holders[file] : NONE;
        }

        boolean isWorn(int cartridge) {
            return wearOf(cartridge) >= WORN_FROM;
        }

        boolean isOnShelf(int cartridge) {
            return isIn(slotOf(cartridge), 0, FIRST_OF_PILE - 1);
        }

        int wallOf(int cartridge) {
            return slotOf(cartridge) / SHELVES_OF_WALL;
        }

        int shelfOfWall(int cartridge) {
            return slotOf(cartridge) % SHELVES_OF_WALL;
        }

        int kindOfPlaceOf(int cartridge) {
            int slot = slotOf(cartridge);
            if (slot == AT_NEIGHBOR) {
                return WITH_NEIGHBOR;
            }
            if (slot < FIRST_OF_PILE) {
                return ON_SHELF;
            }
            return slot < FIRST_OF_DRIVES ? ON_PALLET : IN_DRIVE;
        }

        int placeOf(int cartridge) {
            switch (kindOfPlaceOf(cartridge)) {
                case ON_SHELF:
                    return 10 * wallOf(cartridge) + shelfOfWall(cartridge);
                case ON_PALLET:
                    return slotOf(cartridge) - FIRST_OF_PILE;
                case IN_DRIVE:
                    return slotOf(cartridge) - FIRST_OF_DRIVES;
                default:
                    return NOT_FOUND;
            }
        }

        int filesHeldBy(int cartridge) {
            return Rows.howOften(holders, cartridge);
        }

        int filesHeld() {
            return FILES - Rows.howOften(holders, NONE);
        }

        int withNeighbors() {
            int away = 0;
            for (int cartridge = 0; cartridge < size; cartridge++) {
                if (slotOf(cartridge) == AT_NEIGHBOR) {
                    away++;
                }
            }
            return away;
        }

        int worn() {
            int worn = 0;
            for (int cartridge = 0; cartridge < size; cartridge++) {
                if (isWorn(cartridge)) {
                    worn++;
                }
            }
            return worn;
        }

        /** The nearest one, as the robot looks for it from a wall; NONE if there is none. */
        int emptyShelfNear(int wall) {
            for (int nth = 0; nth < WALLS; nth++) {
                // The wall itself, then by turns one more to the right and one more to the left.
                int away = nth % 2 == 1 ? (nth + 1) / 2 : WALLS - nth / 2;
                int first = shelfSlot((wall + away) % WALLS, 0);
                for (int slot = first; slot < first + SHELVES_OF_WALL; slot++) {
                    if (inSlot(slot) == NONE) {
                        return slot;
                    }
                }
            }
            return NONE;
        }
    }

    /** The requests that wait, in the order in which they came. */
    private static final class Requests {
        private final int[] files = new int[MOST_REQUESTS];
        private final int[] ranks = new int[MOST_REQUESTS];
        private final int[] ticks = new int[MOST_REQUESTS];
        int size;

        void copyFrom(Requests other) {
            Rows.copy(other.files, files);
            Rows.copy(other.ranks, ranks);
            Rows.copy(other.ticks, ticks);
            size = other.size;
        }

        int add(int file, int rank, int tick) {
            if (size < 0 || size >= MOST_REQUESTS) {
                return LIMIT_REACHED;
            }
            files[size] = file;
            ranks[size] = rank;
            ticks[size] = tick;
            size++;
            return size;
        }

        /** Returns how many it removed. */
        int removeHeldBy(int cartridge, Cartridges cartridges) {
            int before = size;
            size = 0;
            for (int index = 0; index < before; index++) {
                if (cartridges.holderOf(fileOf(index)) != cartridge) {
                    add(fileOf(index), rankOf(index), tickOf(index));
                }
            }
            return before - size;
        }

        int fileOf(int index) {
            return index >= 0 && index < files.length ? files[index] : NONE;
        }

        int rankOf(int index) {
            return index >= 0 && index < ranks.length ? ranks[index] : NONE;
        }

        int tickOf(int index) {
            return index >= 0 && index < ticks.length ? ticks[index] : NONE;
        }
    }

    /** A state of everything but the text and the history, and what the robot does to it. */
    private static final class Library {
        final Cartridges cartridges = new Cartridges();
        final Requests requests = new Requests();
        int wall;
        boolean weighed;
        int pileSize;
        int pileWeight;
        int lastMounted;
        int ticks;
        int turns;
        int served;

        void copyFrom(Library other) {
            cartridges.copyFrom(other.cartridges);
            requests.copyFrom(other.requests);
            wall = other.wall;
            weighed = other.weighed;
            pileSize = other.pileSize;
            pileWeight = other.pileWeight;
            lastMounted = other.lastMounted;
            ticks = other.ticks;
            turns = other.turns;
            served = other.served;
        }

        int addCartridge(int weight, int toWall, int shelf) {
            if (!isIn(weight, 1, GREATEST_WEIGHT) || !isShelf(toWall, shelf)) {
                return INVALID_ARGUMENT;
            }
            int slot = shelfSlot(toWall, shelf);
            if (cartridges.inSlot(slot) != NONE) {
                return NOT_POSSIBLE;
            }
            return cartridges.add(weight, slot);
        }

        int exchange(int cartridge, int toWall, int shelf) {
            boolean isGot = toWall == NONE && shelf == NONE;
            if (!cartridges.has(cartridge) || !isGot && !isShelf(toWall, shelf)) {
                return INVALID_ARGUMENT;
            }
            int slot = isGot ? AT_NEIGHBOR : shelfSlot(toWall, shelf);
            boolean isPossible = isGot
                    ? cartridges.isOnShelf(cartridge)
                    : cartridges.slotOf(cartridge) == AT_NEIGHBOR && cartridges.inSlot(slot) == NONE;
            if (!isPossible) {
                return NOT_POSSIBLE;
            }
            cartridges.moveTo(cartridge, slot);
            return cartridges.withNeighbors();
        }

        int liftFrom(int shelf) {
            if (!isShelf(wall, shelf)) {
                return INVALID_ARGUMENT;
            }
            return ontoPile(cartridges.inSlot(shelfSlot(wall, shelf)), 1);
        }

        int layOn(int shelf) {
            if (!isShelf(wall, shelf)) {
                return INVALID_ARGUMENT;
            }
            int slot = shelfSlot(wall, shelf);
            int cartridge = topOfPile();
            if (cartridge == NONE || cartridges.inSlot(slot) != NONE) {
                return NOT_POSSIBLE;
            }
            offPile(cartridge, slot, 1);
            return cartridge;
        }

        int weighPallet() {
            weighed = true;
            ticks += 1;
            return pileWeight;
        }

        int turnBy(int walls) {
            if (walls == 0 || !isIn(walls, -MOST_WALLS_A_TURN, MOST_WALLS_A_TURN)) {
                return INVALID_ARGUMENT;
            }
            int steps = Math.abs(walls);
            if (!weighed || steps > mostWallsWith(pileWeight)) {
                return NOT_POSSIBLE;
            }
            wall = (wall + walls + WALLS) % WALLS;
            weighed = false;
            ticks += steps * (1 + pileWeight / 10);
            turns++;
            return wall;
        }

        int mountIn(int drive) {
            if (!isIn(drive, 0, DRIVES - 1)) {
                return INVALID_ARGUMENT;
            }
            int cartridge = topOfPile();
            if (wall != wallOfDrive(drive) || cartridge == NONE
                    || inDrive(drive) != NONE || cartridges.isWorn(cartridge)) {
                return NOT_POSSIBLE;
            }
            offPile(cartridge, FIRST_OF_DRIVES + drive, 3);
            int servedByIt = requests.removeHeldBy(cartridge, cartridges);
            cartridges.countMounting(cartridge, servedByIt);
            served += servedByIt;
            lastMounted = drive;
            return servedByIt;
        }

        int takeFrom(int drive) {
            if (!isIn(drive, 0, DRIVES - 1)) {
                return INVALID_ARGUMENT;
            }
            if (wall != wallOfDrive(drive)) {
                return NOT_POSSIBLE;
            }
            return ontoPile(inDrive(drive), 2);
        }

        int holdFile(int cartridge, int file) {
            if (!cartridges.has(cartridge) || !isIn(file, 0, FILES - 1)) {
                return INVALID_ARGUMENT;
            }
            if (cartridges.slotOf(cartridge) == AT_NEIGHBOR) {
                return NOT_POSSIBLE;
            }
            int heldBy = cartridges.holderOf(file);
            if (heldBy != cartridge && cartridges.filesHeldBy(cartridge) >= MOST_FILES_HELD) {
                return LIMIT_REACHED;
            }
            cartridges.putFile(cartridge, file);
            return heldBy;
        }

        int addRequest(int file, int rank) {
            if (!isIn(file, 0, FILES - 1) || !isIn(rank, 0, GREATEST_RANK)) {
                return INVALID_ARGUMENT;
            }
            return requests.add(file, rank, ticks);
        }

        int serveBy(int rule) {
            if (!isRule(rule)) {
                return INVALID_ARGUMENT;
            }
            int cartridge = holderFor(nextRequest(rule));
            if (pileSize > 0 || cartridge == NONE) {
                return NOT_POSSIBLE;
            }
            int drive = driveFor(cartridge);
            int wallOfIt = wallOfDrive(drive);
            if (inDrive(drive) != NONE) {
                int slot = cartridges.emptyShelfNear(wallOfIt);
                if (slot == NONE) {
                    return NOT_POSSIBLE;
                }
                goTo(wallOfIt);
                takeFrom(drive);
                goTo(slot / SHELVES_OF_WALL);
                layOn(slot % SHELVES_OF_WALL);
            }
            goTo(cartridges.wallOf(cartridge));
            liftFrom(cartridges.shelfOfWall(cartridge));
            goTo(wallOfIt);
            return mountIn(drive);
        }

        /** Returns how many times it was possible. */
        int serveAllBy(int rule) {
            int times = 0;
            // Each serving leaves at least one request less to wait.
            while (times < MOST_REQUESTS && serveBy(rule) >= 0) {
                times++;
            }
            return times;
        }

        /** Its index, or NONE. */
        int nextRequest(int rule) {
            int best = NONE;
            int bestMerit = 0;
            for (int index = 0; index < requests.size; index++) {
                int cartridge = holderFor(index);
                if (!cartridges.isOnShelf(cartridge) || cartridges.isWorn(cartridge)) {
                    continue;
                }
                int merit = 0;
                if (rule == BY_RANK) {
                    merit = requests.rankOf(index);
                } else if (rule == BY_WAY) {
                    merit = -distance(wall, cartridges.wallOf(cartridge));
                } else if (rule == BY_BATCH) {
                    merit = waitingFor(cartridge);
                }
                // Of several with the same merit the one that came first stays.
                if (best == NONE || merit > bestMerit) {
                    best = index;
                    bestMerit = merit;
                }
            }
            return best;
        }

        /** The cartridge that holds the file of a request that waits, or NONE. */
        int holderFor(int index) {
            return cartridges.holderOf(requests.fileOf(index));
        }

        int driveFor(int cartridge) {
            boolean isFirstEmpty = inDrive(0) == NONE;
            boolean isSecondEmpty = inDrive(1) == NONE;
            if (isFirstEmpty && isSecondEmpty) {
                int from = cartridges.wallOf(cartridge);
                return distance(from, wallOfDrive(0)) <= distance(from, wallOfDrive(1)) ? 0 : 1;
            }
            if (!isFirstEmpty && !isSecondEmpty) {
                return lastMounted == 0 ? 1 : 0;
            }
            return isFirstEmpty ? 0 : 1;
        }

        int waitingFor(int cartridge) {
            int waiting = 0;
            for (int index = 0; index < requests.size; index++) {
                if (cartridges.holderOf(requests.fileOf(index)) == cartridge) {
                    waiting++;
                }
            }
            return waiting;
        }

        void goTo(int target) {
            // Each turn is by one wall at least.
            for (int times = 0; times < WALLS && wall != target; times++) {
                int most = mostWallsWith(weighPallet());
                int right = wallsToTheRight(wall, target);
                int left = WALLS - right;
                turnBy(right <= left ? Math.min(right, most) : -Math.min(left, most));
            }
        }

        int inDrive(int drive) {
            return cartridges.inSlot(FIRST_OF_DRIVES + drive);
        }

        private int topOfPile() {
            return pileSize > 0 ? cartridges.inSlot(FIRST_OF_PILE + pileSize - 1) : NONE;
        }

        private int ontoPile(int cartridge, int ticksNeeded) {
            if (cartridge == NONE) {
                return NOT_POSSIBLE;
            }
            if (pileSize >= MOST_ON_PILE) {
                return LIMIT_REACHED;
            }
            cartridges.moveTo(cartridge, FIRST_OF_PILE + pileSize);
            pileSize++;
            pileWeight += cartridges.weightOf(cartridge);
            weighed = false;
            ticks += ticksNeeded;
            return cartridge;
        }

        private void offPile(int cartridge, int slot, int ticksNeeded) {
            cartridges.moveTo(cartridge, slot);
            pileSize--;
            pileWeight -= cartridges.weightOf(cartridge);
            weighed = false;
            ticks += ticksNeeded;
        }
    }

    /** The states ahead of the latest changes, in a ring: a new one takes the place of the oldest. */
    private static final class History {
        private final Library[] states = new Library[MOST_STATES];
        private int next;
        int size;

        History() {
            for (int index = 0; index < states.length; index++) {
                states[index] = new Library();
            }
        }

        void record(Library library) {
            Library state = stateAt(next);
            if (state != null) {
                state.copyFrom(library);
                next = (next + 1) % MOST_STATES;
                size = Math.min(size + 1, MOST_STATES);
            }
        }

        int restore(Library library) {
            int latest = (next + MOST_STATES - 1) % MOST_STATES;
            Library state = stateAt(latest);
            if (size <= 0 || state == null) {
                return NOT_POSSIBLE;
            }
            library.copyFrom(state);
            next = latest;
            size--;
            return size;
        }

        private Library stateAt(int index) {
            return index >= 0 && index < states.length ? states[index] : null;
        }
    }

    /** The text, its orders and its fault. */
    private static final class Orders {
        private final char[] signs = new char[MOST_SIGNS];
        int length;

        // Of the order that was read last; breaksOffAt is NONE if it has the right form.
        private int word;
        private int number;
        private int end;
        private int breaksOffAt;

        private int faultPosition;
        private int faultReason;
        private int faultCause;

        int append(int character) {
            if (!isIn(character, 32, 126)) {
                return INVALID_ARGUMENT;
            }
            if (length < 0 || length >= signs.length) {
                return LIMIT_REACHED;
            }
            signs[length] = (char) character;
            length++;
            return length;
        }

        int empty() {
            int lengthBefore = length;
            length = 0;
            return lengthBefore;
        }

        /** Returns how many orders were done, or NOT_POSSIBLE if there is a fault. */
        int doAll(Library library) {
            int orders = 0;
            int start = 0;
            faultReason = NO_FAULT;
            // An order has at least one character, so there are no more orders than these.
            while (orders < MOST_SIGNS && start < length) {
                read(start);
                faultReason = reasonAgainstForm();
                if (faultReason == NO_FAULT && carryOut(library) < 0) {
                    faultReason = CANNOT_BE_DONE;
                }
                if (faultReason != NO_FAULT) {
                    faultPosition = start;
                    faultCause = breaksOffAt;
                    return NOT_POSSIBLE;
                }
                orders++;
                start = end;
            }
            return orders;
        }

        int aboutFault(int what) {
            if (faultReason == NO_FAULT) {
                return NOT_FOUND;
            }
            switch (what) {
                case 0:
                    return faultPosition;
                case 1:
                    return faultReason;
                default:
                    return faultReason == BAD_FORM ? faultCause : NOT_FOUND;
            }
        }

        private int reasonAgainstForm() {
            if (breaksOffAt != NONE) {
                return BAD_FORM;
            }
            return isIn(number, lowestNumber(), greatestNumber()) ? NO_FAULT : BAD_NUMBER;
        }

        private int carryOut(Library library) {
            switch (word) {
                case LIFT:
                    return library.liftFrom(number);
                case LAY:
                    return library.layOn(number);
                case WEIGH:
                    return library.weighPallet();
                case RIGHT:
                    return library.turnBy(number);
                case LEFT:
                    return library.turnBy(-number);
                case MOUNT:
                    return library.mountIn(number);
                case TAKE:
                    return library.takeFrom(number);
                default:
                    return library.serveBy(number);
            }
        }

        private int lowestNumber() {
            return word == RIGHT || word == LEFT ? 1 : 0;
        }

        private int greatestNumber() {
            switch (word) {
                case LIFT:
                case LAY:
                    return SHELVES_OF_WALL - 1;
                case RIGHT:
                case LEFT:
                    return MOST_WALLS_A_TURN;
                case MOUNT:
                case TAKE:
                    return DRIVES - 1;
                default:
                    return GREATEST_RULE;
            }
        }

        private void read(int start) {
            int letters = lettersFrom(start);
            word = wordOf(start, letters);
            number = 0;
            end = start + letters;
            if (word == NONE) {
                breaksOffAt = 0;
                return;
            }
            boolean hasForm = (word == WEIGH || readSign(' ') && readDigit()) && readSign(';');
            breaksOffAt = hasForm ? NONE : end - start;
        }

        private boolean readSign(char sign) {
            if (signAt(end) != sign) {
                return false;
            }
            end++;
            return true;
        }

        private boolean readDigit() {
            int sign = signAt(end);
            if (!isIn(sign, '0', '9')) {
                return false;
            }
            number = sign - '0';
            end++;
            return true;
        }

        private int lettersFrom(int start) {
            int letters = 0;
            while (letters < MOST_SIGNS && isIn(signAt(start + letters), 'a', 'z')) {
                letters++;
            }
            return letters;
        }

        private int wordOf(int start, int letters) {
            for (int each = 0; each < WORDS; each++) {
                if (standsAt(start, letters, textOf(each))) {
                    return each;
                }
            }
            return NONE;
        }

        private boolean standsAt(int start, int letters, String text) {
            if (text.length() != letters) {
                return false;
            }
            for (int index = 0; index < text.length(); index++) {
                if (signAt(start + index) != text.charAt(index)) {
                    return false;
                }
            }
            return true;
        }

        private int signAt(int index) {
            return index >= 0 && index < length && index < signs.length ? signs[index] : NONE;
        }

        private static String textOf(int word) {
            switch (word) {
                case LIFT:
                    return "lift";
                case LAY:
                    return "lay";
                case WEIGH:
                    return "weigh";
                case RIGHT:
                    return "right";
                case LEFT:
                    return "left";
                case MOUNT:
                    return "mount";
                case TAKE:
                    return "take";
                default:
                    return "serve";
            }
        }
    }
}
