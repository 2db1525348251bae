import java.util.ArrayList;
import java.util.Arrays;
import java.util.List;
import java.util.regex.Matcher;
import java.util.regex.Pattern;

/**
 * The document once more, in another way than the class: cartridges that know where they are, lists
 * that are copied whole, and orders that are read by patterns. It stands beside the class in
 * random runs.
 */
final class PlainLibrary {
    static final int INVALID = -1000001;
    static final int NOT_POSSIBLE = -1000002;
    static final int LIMIT = -1000003;
    static final int NOT_FOUND = -1000004;

    private static final int[] DRIVE_WALLS = {2, 6};
    private static final List<String> WORDS =
            Arrays.asList("lift", "lay", "weigh", "right", "left", "mount", "take", "serve");
    private static final Pattern LETTERS = Pattern.compile("[a-z]*");
    private static final Pattern ORDER = Pattern.compile("(weigh|(lift|lay|right|left|mount|take|serve) ([0-9]));");

    private static final class Cartridge {
        int weight;
        int wear;
        int served;
        char at = 's';
        int wall;
        int shelf;
        int drive;
        List<Integer> files = new ArrayList<>();

        Cartridge copy() {
            Cartridge copy = new Cartridge();
            copy.weight = weight;
            copy.wear = wear;
            copy.served = served;
            copy.at = at;
            copy.wall = wall;
            copy.shelf = shelf;
            copy.drive = drive;
            copy.files = new ArrayList<>(files);
            return copy;
        }
    }

    private List<Cartridge> all = new ArrayList<>();
    private List<Cartridge> pile = new ArrayList<>();
    private List<int[]> waiting = new ArrayList<>();
    private long[] mountings = {0, 0};
    private long mountingsSoFar = 0;
    private int wall = 0;
    private boolean weighed = false;
    private int ticks = 0;
    private int turns = 0;
    private int served = 0;

    private final List<PlainLibrary> history = new ArrayList<>();
    private final StringBuilder text = new StringBuilder();

    private PlainLibrary copy() {
        PlainLibrary copy = new PlainLibrary();
        copy.become(this);
        return copy;
    }

    private void become(PlainLibrary other) {
        List<Cartridge> copies = new ArrayList<>();
        for (Cartridge cartridge : other.all) {
            copies.add(cartridge.copy());
        }
        List<Cartridge> pileThen = new ArrayList<>();
        for (Cartridge cartridge : other.pile) {
            pileThen.add(copies.get(other.all.indexOf(cartridge)));
        }
        all = copies;
        pile = pileThen;
        waiting = new ArrayList<>(other.waiting);
        mountings = other.mountings.clone();
        mountingsSoFar = other.mountingsSoFar;
        wall = other.wall;
        weighed = other.weighed;
        ticks = other.ticks;
        turns = other.turns;
        served = other.served;
    }

    private interface Change {
        int on(PlainLibrary library);
    }

    private int change(Change change) {
        PlainLibrary before = copy();
        int answer = change.on(this);
        if (answer < -1) {
            become(before);
            return answer;
        }
        history.add(before);
        if (history.size() == 5) {
            history.remove(0);
        }
        return answer;
    }

    private static boolean outside(int number, int from, int to) {
        return number < from || number > to;
    }

    private Cartridge onShelf(int atWall, int shelf) {
        for (Cartridge cartridge : all) {
            if (cartridge.at == 's' && cartridge.wall == atWall && cartridge.shelf == shelf) {
                return cartridge;
            }
        }
        return null;
    }

    private Cartridge inDrive(int drive) {
        for (Cartridge cartridge : all) {
            if (cartridge.at == 'd' && cartridge.drive == drive) {
                return cartridge;
            }
        }
        return null;
    }

    private Cartridge holding(int file) {
        for (Cartridge cartridge : all) {
            if (cartridge.files.contains(file)) {
                return cartridge;
            }
        }
        return null;
    }

    private int weight() {
        int weight = 0;
        for (Cartridge cartridge : pile) {
            weight += cartridge.weight;
        }
        return weight;
    }

    private int away() {
        int away = 0;
        for (Cartridge cartridge : all) {
            away += cartridge.at == 'n' ? 1 : 0;
        }
        return away;
    }

    int bring(int weight, int atWall, int shelf) {
        return change(library -> {
            if (outside(weight, 1, 20) || outside(atWall, 0, 7) || outside(shelf, 0, 3)) {
                return INVALID;
            }
            if (library.onShelf(atWall, shelf) != null) {
                return NOT_POSSIBLE;
            }
            if (library.all.size() == 30) {
                return LIMIT;
            }
            Cartridge cartridge = new Cartridge();
            cartridge.weight = weight;
            cartridge.wall = atWall;
            cartridge.shelf = shelf;
            library.all.add(cartridge);
            return library.all.size() - 1;
        });
    }

    int send(int number, int atWall, int shelf) {
        return change(library -> {
            if (outside(number, 0, library.all.size() - 1) || outside(atWall, -1, 7) || outside(shelf, -1, 3)
                    || (atWall == -1) != (shelf == -1)) {
                return INVALID;
            }
            Cartridge cartridge = library.all.get(number);
            if (atWall == -1) {
                if (cartridge.at != 's') {
                    return NOT_POSSIBLE;
                }
                cartridge.at = 'n';
                return library.away();
            }
            if (cartridge.at != 'n' || library.onShelf(atWall, shelf) != null) {
                return NOT_POSSIBLE;
            }
            cartridge.at = 's';
            cartridge.wall = atWall;
            cartridge.shelf = shelf;
            return library.away();
        });
    }

    private int doLift(int shelf) {
        if (outside(shelf, 0, 3)) {
            return INVALID;
        }
        Cartridge cartridge = onShelf(wall, shelf);
        if (cartridge == null) {
            return NOT_POSSIBLE;
        }
        if (pile.size() == 3) {
            return LIMIT;
        }
        cartridge.at = 'p';
        pile.add(cartridge);
        weighed = false;
        ticks++;
        return all.indexOf(cartridge);
    }

    private int doLay(int shelf) {
        if (outside(shelf, 0, 3)) {
            return INVALID;
        }
        if (pile.isEmpty() || onShelf(wall, shelf) != null) {
            return NOT_POSSIBLE;
        }
        Cartridge cartridge = pile.remove(pile.size() - 1);
        cartridge.at = 's';
        cartridge.wall = wall;
        cartridge.shelf = shelf;
        weighed = false;
        ticks++;
        return all.indexOf(cartridge);
    }

    private int doWeigh() {
        weighed = true;
        ticks++;
        return weight();
    }

    private static int most(int weight) {
        if (weight > 20) {
            return 1;
        }
        return weight > 10 ? 2 : 4;
    }

    private int doTurn(int walls) {
        if (walls == 0 || outside(walls, -4, 4)) {
            return INVALID;
        }
        int steps = walls < 0 ? -walls : walls;
        if (!weighed || steps > most(weight())) {
            return NOT_POSSIBLE;
        }
        for (int step = 0; step < steps; step++) {
            wall = walls > 0 ? wall + 1 : wall - 1;
            wall = wall == 8 ? 0 : wall == -1 ? 7 : wall;
            ticks += 1 + weight() / 10;
        }
        turns++;
        weighed = false;
        return wall;
    }

    private int doMount(int drive) {
        if (outside(drive, 0, 1)) {
            return INVALID;
        }
        if (wall != DRIVE_WALLS[drive] || pile.isEmpty() || inDrive(drive) != null
                || pile.get(pile.size() - 1).wear > 5) {
            return NOT_POSSIBLE;
        }
        Cartridge cartridge = pile.remove(pile.size() - 1);
        cartridge.at = 'd';
        cartridge.drive = drive;
        cartridge.wear++;
        weighed = false;
        ticks += 3;
        mountings[drive] = ++mountingsSoFar;
        int before = waiting.size();
        waiting.removeIf(request -> cartridge.files.contains(request[0]));
        int answer = before - waiting.size();
        cartridge.served += answer;
        served += answer;
        return answer;
    }

    private int doTake(int drive) {
        if (outside(drive, 0, 1)) {
            return INVALID;
        }
        Cartridge cartridge = inDrive(drive);
        if (wall != DRIVE_WALLS[drive] || cartridge == null) {
            return NOT_POSSIBLE;
        }
        if (pile.size() == 3) {
            return LIMIT;
        }
        cartridge.at = 'p';
        pile.add(cartridge);
        weighed = false;
        ticks += 2;
        return all.indexOf(cartridge);
    }

    private static int apart(int one, int other) {
        int apart = Math.abs(one - other);
        return Math.min(apart, 8 - apart);
    }

    private int waitingFor(Cartridge cartridge) {
        int count = 0;
        for (int[] request : waiting) {
            count += cartridge.files.contains(request[0]) ? 1 : 0;
        }
        return count;
    }

    private int next(int rule) {
        int best = -1;
        int bestWorth = 0;
        for (int index = waiting.size() - 1; index >= 0; index--) {
            Cartridge cartridge = holding(waiting.get(index)[0]);
            if (cartridge == null || cartridge.at != 's' || cartridge.wear >= 6) {
                continue;
            }
            int[] worths = {0, waiting.get(index)[1], 100 - apart(cartridge.wall, wall), waitingFor(cartridge)};
            if (best == -1 || worths[rule] >= bestWorth) {
                best = index;
                bestWorth = worths[rule];
            }
        }
        return best;
    }

    private void doGo(int target) {
        while (wall != target) {
            doWeigh();
            int toTheRight = 0;
            while ((wall + toTheRight) % 8 != target) {
                toTheRight++;
            }
            boolean right = toTheRight <= 4;
            int left = right ? toTheRight : 8 - toTheRight;
            int walls = Math.min(left, most(weight()));
            doTurn(right ? walls : -walls);
        }
    }

    private int driveChosen(Cartridge cartridge) {
        if (inDrive(0) == null && inDrive(1) == null) {
            return apart(cartridge.wall, 6) < apart(cartridge.wall, 2) ? 1 : 0;
        }
        if (inDrive(0) == null) {
            return 0;
        }
        if (inDrive(1) == null) {
            return 1;
        }
        return mountings[0] < mountings[1] ? 0 : 1;
    }

    private int[] emptyShelfNear(int from) {
        for (int apart : new int[] {0, 1, -1, 2, -2, 3, -3, 4}) {
            for (int shelf = 0; shelf < 4; shelf++) {
                if (onShelf((from + apart + 8) % 8, shelf) == null) {
                    return new int[] {(from + apart + 8) % 8, shelf};
                }
            }
        }
        return null;
    }

    private int doServe(int rule) {
        if (outside(rule, 0, 3)) {
            return INVALID;
        }
        int index = next(rule);
        if (!pile.isEmpty() || index == -1) {
            return NOT_POSSIBLE;
        }
        Cartridge cartridge = holding(waiting.get(index)[0]);
        int drive = driveChosen(cartridge);
        if (inDrive(drive) != null) {
            int[] place = emptyShelfNear(DRIVE_WALLS[drive]);
            if (place == null) {
                return NOT_POSSIBLE;
            }
            doGo(DRIVE_WALLS[drive]);
            doTake(drive);
            doGo(place[0]);
            doLay(place[1]);
        }
        doGo(cartridge.wall);
        doLift(cartridge.shelf);
        doGo(DRIVE_WALLS[drive]);
        return doMount(drive);
    }

    int lift(int shelf) {
        return change(library -> library.doLift(shelf));
    }

    int lay(int shelf) {
        return change(library -> library.doLay(shelf));
    }

    int weigh() {
        return change(PlainLibrary::doWeigh);
    }

    int turn(int walls) {
        return change(library -> library.doTurn(walls));
    }

    int mount(int drive) {
        return change(library -> library.doMount(drive));
    }

    int take(int drive) {
        return change(library -> library.doTake(drive));
    }

    int serve(int rule) {
        return change(library -> library.doServe(rule));
    }

    int hold(int number, int file) {
        return change(library -> {
            if (outside(number, 0, library.all.size() - 1) || outside(file, 0, 59)) {
                return INVALID;
            }
            Cartridge cartridge = library.all.get(number);
            if (cartridge.at == 'n') {
                return NOT_POSSIBLE;
            }
            Cartridge before = library.holding(file);
            if (before == cartridge) {
                return number;
            }
            if (cartridge.files.size() == 4) {
                return LIMIT;
            }
            if (before != null) {
                before.files.remove(Integer.valueOf(file));
            }
            cartridge.files.add(file);
            return before == null ? -1 : library.all.indexOf(before);
        });
    }

    int request(int file, int rank) {
        return change(library -> {
            if (outside(file, 0, 59) || outside(rank, 0, 9)) {
                return INVALID;
            }
            if (library.waiting.size() == 12) {
                return LIMIT;
            }
            library.waiting.add(new int[] {file, rank, library.ticks});
            return library.waiting.size();
        });
    }

    int cartridgeOf(int number, int what) {
        if (outside(number, 0, all.size() - 1) || outside(what, 0, 6)) {
            return INVALID;
        }
        Cartridge cartridge = all.get(number);
        switch (what) {
            case 0:
                return cartridge.weight;
            case 1:
                return cartridge.wear;
            case 2:
                return "spdn".indexOf(cartridge.at);
            case 3:
                switch (cartridge.at) {
                    case 's':
                        return 10 * cartridge.wall + cartridge.shelf;
                    case 'p':
                        return pile.indexOf(cartridge);
                    case 'd':
                        return cartridge.drive;
                    default:
                        return NOT_FOUND;
                }
            case 4:
                return cartridge.files.size();
            case 5:
                return waitingFor(cartridge);
            default:
                return cartridge.served;
        }
    }

    private int numberOf(Cartridge cartridge) {
        return cartridge == null ? NOT_FOUND : all.indexOf(cartridge);
    }

    int shelfOf(int atWall, int shelf) {
        return outside(atWall, 0, 7) || outside(shelf, 0, 3) ? INVALID : numberOf(onShelf(atWall, shelf));
    }

    int holder(int file) {
        return outside(file, 0, 59) ? INVALID : numberOf(holding(file));
    }

    int requestOf(int index, int what) {
        if (index < 0 || outside(what, 0, 2)) {
            return INVALID;
        }
        return index >= waiting.size() ? NOT_FOUND : waiting.get(index)[what];
    }

    int nextBy(int rule) {
        if (outside(rule, 0, 3)) {
            return INVALID;
        }
        int index = next(rule);
        return index == -1 ? NOT_FOUND : index;
    }

    int would(int rule, int what) {
        if (outside(rule, 0, 3) || outside(what, 0, 4)) {
            return INVALID;
        }
        PlainLibrary then = copy();
        int answer = then.doServe(rule);
        if (answer < 0) {
            return answer;
        }
        Cartridge cartridge = holding(waiting.get(next(rule))[0]);
        Cartridge mounted = then.all.get(all.indexOf(cartridge));
        return new int[] {then.ticks - ticks, then.turns - turns, answer, mounted.drive, all.indexOf(cartridge)}[what];
    }

    int wayTo(int target) {
        if (outside(target, 0, 7)) {
            return INVALID;
        }
        int walls = apart(wall, target);
        int most = most(weight());
        int turnings = (walls + most - 1) / most;
        return turnings + walls * (1 + weight() / 10);
    }

    int wholeBatch(int rule, int what) {
        if (outside(rule, 0, 3) || outside(what, 0, 2)) {
            return INVALID;
        }
        PlainLibrary then = copy();
        int times = 0;
        while (then.doServe(rule) >= 0) {
            times++;
        }
        return new int[] {then.ticks - ticks, times, then.waiting.size()}[what];
    }

    int count(int what) {
        if (outside(what, 0, 15)) {
            return INVALID;
        }
        int worn = 0;
        int files = 0;
        for (Cartridge cartridge : all) {
            worn += cartridge.wear >= 6 ? 1 : 0;
            files += cartridge.files.size();
        }
        return new int[] {ticks, wall, pile.size(), weight(), weighed ? 1 : 0, all.size(), away(), worn, waiting.size(),
            served, turns, numberOf(inDrive(0)), numberOf(inDrive(1)), files, history.size(), text.length()}[what];
    }

    int undo() {
        if (history.isEmpty()) {
            return NOT_POSSIBLE;
        }
        become(history.remove(history.size() - 1));
        return history.size();
    }

    int type(int character) {
        if (outside(character, 32, 126)) {
            return INVALID;
        }
        if (text.length() == 60) {
            return LIMIT;
        }
        text.append((char) character);
        return text.length();
    }

    int clearText() {
        int length = text.length();
        text.setLength(0);
        return length;
    }

    /** The position, the reason and the cause; null if the text has no fault. What is done stays done. */
    private int[] run(int[] orders) {
        String rest = text.toString();
        int position = 0;
        while (!rest.isEmpty()) {
            Matcher matcher = ORDER.matcher(rest);
            if (!matcher.lookingAt()) {
                return new int[] {position, 1, cause(rest)};
            }
            String word = matcher.group(2) == null ? "weigh" : matcher.group(2);
            int number = matcher.group(3) == null ? 0 : Integer.parseInt(matcher.group(3));
            if (!inRange(word, number)) {
                return new int[] {position, 2, NOT_FOUND};
            }
            if (order(word, number) < 0) {
                return new int[] {position, 3, NOT_FOUND};
            }
            orders[0]++;
            position += matcher.end();
            rest = rest.substring(matcher.end());
        }
        return null;
    }

    private static int cause(String rest) {
        Matcher letters = LETTERS.matcher(rest);
        letters.lookingAt();
        String word = letters.group();
        if (!WORDS.contains(word)) {
            return 0;
        }
        String shape = word.equals("weigh") ? "weigh;" : word + " #;";
        for (int i = 0; i < shape.length(); i++) {
            if (i == rest.length()) {
                return i;
            }
            boolean fits = shape.charAt(i) == '#' ? "0123456789".indexOf(rest.charAt(i)) >= 0 : shape.charAt(i) == rest.charAt(i);
            if (!fits) {
                return i;
            }
        }
        return -99;
    }

    private static boolean inRange(String word, int number) {
        switch (word) {
            case "mount":
            case "take":
                return number <= 1;
            case "right":
            case "left":
                return number >= 1 && number <= 4;
            default:
                return number <= 3;
        }
    }

    private int order(String word, int number) {
        switch (word) {
            case "lift":
                return doLift(number);
            case "lay":
                return doLay(number);
            case "weigh":
                return doWeigh();
            case "right":
                return doTurn(number);
            case "left":
                return doTurn(-number);
            case "mount":
                return doMount(number);
            case "take":
                return doTake(number);
            default:
                return doServe(number);
        }
    }

    private PlainLibrary copyWithText() {
        PlainLibrary then = copy();
        then.text.append(text);
        return then;
    }

    int fault(int what) {
        if (outside(what, 0, 2)) {
            return INVALID;
        }
        int[] fault = copyWithText().run(new int[1]);
        return fault == null ? NOT_FOUND : fault[what];
    }

    /** Whether a text has a fault if it is the whole one. */
    boolean hasFault(String whole) {
        PlainLibrary then = copy();
        then.text.append(whole);
        return then.run(new int[1]) != null;
    }

    int play() {
        return change(library -> {
            int[] orders = {0};
            return library.run(orders) == null ? orders[0] : NOT_POSSIBLE;
        });
    }
}
